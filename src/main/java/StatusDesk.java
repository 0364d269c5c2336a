/**
 * A desk that tells whether certificates still hold. The promises are those of ../shared/DOC.md.
 *
 * <p>Every row is made once, in a constructor, and used again by all calls, because all the calls
 * of a run share one small room for objects.
 */
public final class StatusDesk {
    public static final int NONE = -1;
    public static final int BAD = -2;
    public static final int FULL = -3;

    private static final int TAPE_ROOM = 1500;
    private static final int CERT_ROOM = 128;
    private static final int NAME_ROOM = 16;
    private static final int NONCE_ROOM = 16;
    private static final int LONG_BYTES = 8;
    private static final int MOST_AUTHORITIES = 4;
    private static final int MOST_SIGNERS = 8;
    private static final int MOST_SERIALS = 32;
    private static final int MOST_IDS = 8;
    private static final int MOST_HELD = 16;
    private static final int MOST_SECONDS = 1000000000;
    private static final int LAST_SERIAL = 2147483647;
    private static final int LAST_CODE = 10;
    private static final int LAST_FLAGS = 3;
    private static final int LIFTABLE = 6;

    private static final int MAY_SIGN = 1;
    private static final int NOT_LOOKED_UP = 2;

    private static final int INTEGER = 2;
    private static final int BITS = 3;
    private static final int BYTES = 4;
    private static final int CODE = 10;
    private static final int TIME = 24;
    private static final int ROW = 48;
    private static final int STATE_GOOD = 128;
    private static final int STATE_NOT_KNOWN = 130;
    private static final int TAGGED = 160;

    private static final int GOOD = 1;
    private static final int TAKEN_BACK = 2;
    private static final int NOT_KNOWN = 3;

    private static final int STATUS_RIGHT = 0;
    private static final int STATUS_NO_ASK = 1;
    private static final int STATUS_NOT_MINE = 6;

    private static final int NO_VERDICT = 0;
    private static final int NO_ANSWER = 21;
    private static final int STATUS_NOT_RIGHT = 22;
    private static final int NOBODY_SIGNED = 23;
    private static final int CERT_OF_ANOTHER = 24;
    private static final int CERT_MAY_NOT_SIGN = 25;
    private static final int CERT_OUT_OF_TIME = 26;
    private static final int CERT_TAKEN_BACK = 27;
    private static final int SIGNATURE_WRONG = 28;
    private static final int NONCE_WRONG = 29;
    private static final int ID_LACKS = 30;
    private static final int THIS_TOO_LATE = 31;
    private static final int NEXT_TOO_EARLY = 32;
    private static final int THIS_TOO_OLD = 33;

    private final Bytes tape = new Bytes(TAPE_ROOM);
    private final Bytes out = new Bytes(TAPE_ROOM);
    private final Bytes ownNonce = new Bytes(LONG_BYTES);
    private final Authority[] authorities = new Authority[MOST_AUTHORITIES];
    private final Signer[] signers = new Signer[MOST_SIGNERS];
    private final Find[] shelf = new Find[MOST_HELD];
    private final Find latest = new Find();
    private final Ids wanted = new Ids();
    private final Scan scan = new Scan();
    private final AskText askText = new AskText();
    private final AnswerText answerText = new AnswerText();
    private int authorityCount;
    private int signerCount;
    private int heldCount;
    private int rightAnswers;
    private int otherAnswers;
    private int looks;
    private int latestVerdict = NO_VERDICT;
    private boolean findToHold;

    public StatusDesk() {
        for (int i = 0; i < authorities.length; i++) {
            authorities[i] = new Authority();
        }
        for (int i = 0; i < signers.length; i++) {
            signers[i] = new Signer();
        }
        for (int i = 0; i < shelf.length; i++) {
            shelf[i] = new Find();
        }
    }

    // ---- bytes

    public int feed(long row, int n) {
        if (n < 1 || n > LONG_BYTES) {
            return BAD;
        }
        if (tape.length + n > TAPE_ROOM) {
            return FULL;
        }
        tape.addLowestFirst(row, n);
        return tape.length;
    }

    public int take() {
        tape.copyOf(out);
        return tape.length;
    }

    public int spoil(int i, int mask) {
        if (i < 0 || i >= tape.length) {
            return BAD;
        }
        tape.data[i] ^= (byte) mask;
        return tape.byteAt(i);
    }

    public int cut(int n) {
        if (n < 0 || n > tape.length) {
            return BAD;
        }
        int had = tape.length;
        tape.length = n;
        return had;
    }

    public int size() {
        return out.length;
    }

    public int out(int i) {
        return out.byteAt(i);
    }

    // ---- authorities

    public int authority(int secret) {
        int number = newAuthority(secret);
        tape.clear();
        return number;
    }

    public int issue(int authority, int serial) {
        Authority by = authorityAt(authority);
        if (by == null || serial < 0) {
            return BAD;
        }
        if (by.placeOf(serial) != NONE || by.issued >= MOST_SERIALS) {
            return FULL;
        }
        by.enlist(serial);
        return by.issued;
    }

    public int takeBack(int authority, int serial, long time, int reason) {
        Authority by = authorityAt(authority);
        if (by == null || serial < 0 || !Times.fits(time) || reason < 0 || reason > LAST_CODE) {
            return BAD;
        }
        int place = by.placeOf(serial);
        if (place == NONE) {
            return NONE;
        }
        if (by.since[place] != NONE) {
            return FULL;
        }
        by.since[place] = time;
        by.reasons[place] = reason;
        by.takenBack++;
        return by.takenBack;
    }

    public boolean lift(int authority, int serial) {
        Authority by = authorityAt(authority);
        if (by == null) {
            return false;
        }
        int place = by.placeOf(serial);
        if (place == NONE || by.since[place] == NONE || by.reasons[place] != LIFTABLE) {
            return false;
        }
        by.since[place] = NONE;
        by.takenBack--;
        return true;
    }

    public int signer(int authority, int secret, int serial, long from, long to, int flags) {
        int number = BAD;
        Authority by = authorityAt(authority);
        boolean fit = serial >= 0 && Times.fits(from) && Times.fits(to)
                && flags >= 0 && flags <= LAST_FLAGS;
        if (by != null && fit && isName(tape) && Numbers.isSecret(secret)) {
            number = FULL;
            if (signerCount < MOST_SIGNERS && by.hasRoomFor(serial)) {
                number = signerCount;
                signerCount++;
                signers[number].begin(authority, secret);
                signers[number].writeCert(by, tape, serial, from, to, flags);
                by.enlist(serial);
                out.copyOf(signers[number].text);
            }
        }
        tape.clear();
        return number;
    }

    public int cert(int signer) {
        Signer of = signerAt(signer);
        if (of == null) {
            return BAD;
        }
        out.copyOf(of.text);
        return out.length;
    }

    // ---- asks and answers

    public int want(int authority, int serial) {
        Authority by = authorityAt(authority);
        if (by == null || serial < 0) {
            return BAD;
        }
        if (wanted.count >= MOST_IDS) {
            return FULL;
        }
        wanted.add(by.nameHash, by.keyHash, serial);
        return wanted.count;
    }

    public int nonce(long bytes, int n) {
        if (n < 0 || n > LONG_BYTES) {
            return BAD;
        }
        ownNonce.clear();
        ownNonce.addLowestFirst(bytes, n);
        return n;
    }

    public int ask() {
        if (wanted.count == 0) {
            return NONE;
        }
        out.clear();
        int whole = out.open(ROW);
        int row = out.open(ROW);
        for (int i = 0; i < wanted.count; i++) {
            out.addId(wanted, i);
        }
        out.close(row);
        if (ownNonce.length > 0) {
            out.addTaggedBytes(2, ownNonce, 0, ownNonce.length);
        }
        out.close(whole);
        wanted.count = 0;
        return out.length;
    }

    public int answer(int responder, long time, long life) {
        int status = BAD;
        Signer signer = signerAt(responder - MOST_AUTHORITIES);
        Authority by = authorityAt(signer == null ? responder : signer.owner);
        if (by != null && Times.fits(time) && life >= 0 && life <= Times.LAST - time) {
            status = statusFor(by);
            if (status == STATUS_RIGHT) {
                rightAnswers++;
                writeAnswer(by, signer, time, life > 0 ? time + life : NONE);
            } else {
                otherAnswers++;
                writeStatusAlone(status);
            }
        }
        tape.clear();
        return status;
    }

    public int look(int authority, int serial, long time, int slack, int age) {
        int verdict = BAD;
        Authority by = authorityAt(authority);
        if (by != null && serial >= 0 && Times.fits(time) && isSpan(slack) && isSpan(age)) {
            scan.begin(tape);
            answerText.read(scan);
            int single = answerText.ids.placeOf(by.nameHash, by.keyHash, serial);
            verdict = verdictOnText(by, time);
            if (verdict == NO_VERDICT) {
                verdict = answerText.verdictOnSingle(single, time, slack, age);
            }
            if (verdict <= NOT_KNOWN) {
                latest.begin(authority, serial);
                latest.takeSingle(answerText, single, age);
                findToHold = true;
            }
            latestVerdict = verdict;
            looks++;
        }
        tape.clear();
        return verdict;
    }

    public boolean passes(boolean hard) {
        if (hard || latestVerdict == NO_VERDICT) {
            return latestVerdict == GOOD;
        }
        return latestVerdict != TAKEN_BACK && latestVerdict != STATUS_NOT_RIGHT
                && (latestVerdict < CERT_OF_ANOTHER || latestVerdict > SIGNATURE_WRONG);
    }

    public long found(int what) {
        switch (what) {
            case 0: return latest.state;
            case 1: return latest.since;
            case 2: return latest.reason;
            case 3: return latest.from;
            case 4: return latest.next;
            default: return BAD;
        }
    }

    public int hold() {
        if (!findToHold) {
            return NONE;
        }
        if (heldCount >= MOST_HELD) {
            dropFirstHeld();
        }
        shelf[heldCount].copyOf(latest);
        heldCount++;
        findToHold = false;
        return heldCount;
    }

    public int held(int authority, int serial, long time) {
        if (authorityAt(authority) == null || serial < 0 || !Times.fits(time)) {
            return BAD;
        }
        for (int i = heldCount - 1; i >= 0; i--) {
            Find find = shelf[i];
            if (find.authority == authority && find.serial == serial) {
                return time > find.next ? 0 : find.state;
            }
        }
        return 0;
    }

    // ---- looks at texts

    public int check(int what) {
        scan.begin(tape);
        switch (what) {
            case 0:
                answerText.cert.read(scan);
                scan.endText();
                break;
            case 1:
                askText.read(scan);
                break;
            case 2:
                answerText.read(scan);
                break;
            default:
                return BAD;
        }
        return scan.fault == NONE ? scan.items : -10 - scan.fault;
    }

    public int clock(long time, int i) {
        if (!Times.fits(time) || i < 0 || i >= Times.CHARACTERS) {
            return BAD;
        }
        return Times.character(Times.stamp(time), i);
    }

    public long hash() {
        return tape.digest(0, tape.length);
    }

    public int key(int what, int k) {
        Authority authority = what == 0 ? authorityAt(k) : null;
        Signer signer = what == 1 ? signerAt(k) : null;
        if (authority != null) {
            return authority.publicKey;
        }
        return signer != null ? signer.publicKey : BAD;
    }

    public int told(int what) {
        switch (what) {
            case 0: return authorityCount;
            case 1: return signerCount;
            case 2: return wanted.count;
            case 3: return tape.length;
            case 4: return heldCount;
            case 5: return rightAnswers;
            case 6: return otherAnswers;
            case 7: return looks;
            default: return BAD;
        }
    }

    // ---- what the calls share

    private Authority authorityAt(int number) {
        return number >= 0 && number < authorityCount ? authorities[number] : null;
    }

    private Signer signerAt(int number) {
        return number >= 0 && number < signerCount ? signers[number] : null;
    }

    private static boolean isName(Bytes bytes) {
        return bytes.length >= 1 && bytes.length <= NAME_ROOM;
    }

    private static boolean isSpan(int seconds) {
        return seconds >= 0 && seconds <= MOST_SECONDS;
    }

    private int newAuthority(int secret) {
        if (!isName(tape) || !Numbers.isSecret(secret)) {
            return BAD;
        }
        if (authorityCount >= MOST_AUTHORITIES) {
            return FULL;
        }
        for (int i = 0; i < authorityCount; i++) {
            if (authorities[i].name.isSame(tape, 0, tape.length)) {
                return FULL;
            }
        }
        authorities[authorityCount].begin(tape, secret);
        authorityCount++;
        return authorityCount - 1;
    }

    private void dropFirstHeld() {
        Find first = shelf[0];
        for (int i = 1; i < MOST_HELD; i++) {
            shelf[i - 1] = shelf[i];
        }
        shelf[MOST_HELD - 1] = first;
        heldCount--;
    }

    // ---- to answer

    private int statusFor(Authority by) {
        scan.begin(tape);
        askText.read(scan);
        if (scan.fault != NONE) {
            return STATUS_NO_ASK;
        }
        for (int i = 0; i < askText.ids.count; i++) {
            if (askText.ids.isOf(i, by.nameHash, by.keyHash)) {
                return STATUS_RIGHT;
            }
        }
        return STATUS_NOT_MINE;
    }

    private void writeStatusAlone(int status) {
        out.clear();
        int whole = out.open(ROW);
        out.addCode(status);
        out.close(whole);
    }

    /** The signer is null when the authority signs itself; next is NONE when it is not told. */
    private void writeAnswer(Authority by, Signer signer, long time, long next) {
        out.clear();
        int whole = out.open(ROW);
        out.addCode(STATUS_RIGHT);
        int tagged = out.open(TAGGED);
        int row = out.open(ROW);
        int body = out.open(ROW);
        writeTeller(by, signer);
        out.addTime(time);
        int singles = out.open(ROW);
        for (int i = 0; i < askText.ids.count; i++) {
            writeSingle(i, by, time, next);
        }
        out.close(singles);
        if (askText.nonceSize > 0) {
            out.addTaggedBytes(3, tape, askText.noncePlace, askText.nonceSize);
        }
        out.close(body);
        int secret = signer == null ? by.secret : signer.secret;
        out.addSignature(Numbers.signature(secret, out.digest(body, out.length)));
        if (signer != null) {
            int cert = out.open(TAGGED);
            out.addAll(signer.text, 0, signer.text.length);
            out.close(cert);
        }
        out.close(row);
        out.close(tagged);
        out.close(whole);
    }

    private void writeTeller(Authority by, Signer signer) {
        if (signer == null) {
            out.addTaggedBytes(1, by.name, 0, by.name.length);
        } else {
            int teller = out.open(TAGGED + 2);
            out.addHash(signer.keyHash);
            out.close(teller);
        }
    }

    private void writeSingle(int i, Authority by, long time, long next) {
        int single = out.open(ROW);
        out.addId(askText.ids, i);
        writeState(i, by, time);
        out.addTime(time);
        if (next != NONE) {
            int later = out.open(TAGGED);
            out.addTime(next);
            out.close(later);
        }
        out.close(single);
    }

    private void writeState(int i, Authority by, long time) {
        boolean own = askText.ids.isOf(i, by.nameHash, by.keyHash);
        int place = own ? by.placeOf(askText.ids.serials[i]) : NONE;
        if (place == NONE) {
            out.close(out.open(STATE_NOT_KNOWN));
        } else if (by.isTakenBack(place, time)) {
            int state = out.open(TAGGED + 1);
            out.addTime(by.since[place]);
            out.addCode(by.reasons[place]);
            out.close(state);
        } else {
            out.close(out.open(STATE_GOOD));
        }
    }

    // ---- the look

    /** What is wrong before the singles are looked at, or NO_VERDICT. */
    private int verdictOnText(Authority by, long time) {
        if (scan.fault != NONE) {
            return NO_ANSWER;
        }
        if (answerText.status != STATUS_RIGHT) {
            return STATUS_NOT_RIGHT;
        }
        boolean own = answerText.isToldBy(tape, by.name, by.keyHash);
        int verdict = own ? NO_VERDICT : verdictOnCert(by, time);
        if (verdict != NO_VERDICT) {
            return verdict;
        }
        long signerKey = own ? by.publicKey : answerText.cert.publicKey;
        long digest = tape.digest(answerText.bodyPlace, answerText.bodyEnd);
        if (!Numbers.isRight(answerText.signature, signerKey, digest)) {
            return SIGNATURE_WRONG;
        }
        boolean same = ownNonce.isSame(tape, answerText.noncePlace, answerText.nonceSize);
        return ownNonce.length > 0 && !same ? NONCE_WRONG : NO_VERDICT;
    }

    private int verdictOnCert(Authority by, long time) {
        CertText cert = answerText.cert;
        if (!answerText.hasCert || !answerText.isToldByCert(tape)) {
            return NOBODY_SIGNED;
        }
        long digest = tape.digest(cert.innerPlace, cert.innerEnd);
        if (!by.name.isSame(tape, cert.issuerPlace, cert.issuerSize)
                || !Numbers.isRight(cert.signature, by.publicKey, digest)) {
            return CERT_OF_ANOTHER;
        }
        if ((cert.flags & MAY_SIGN) == 0) {
            return CERT_MAY_NOT_SIGN;
        }
        if (time < cert.from || time > cert.to) {
            return CERT_OUT_OF_TIME;
        }
        boolean lookedUp = (cert.flags & NOT_LOOKED_UP) == 0;
        if (lookedUp && by.isTakenBack(by.placeOf(cert.serial), time)) {
            return CERT_TAKEN_BACK;
        }
        return NO_VERDICT;
    }

    // ---- 1 NUMBERS

    private static final class Numbers {
        private static final long P = 2147483579L;
        private static final long Q = 1073741789L;
        private static final long G = 4L;
        private static final int EXPONENT_BITS = 31;
        private static final long HASH_START = 0x6A09E667F3BCC909L;
        private static final long HASH_STEP = 0x9E3779B97F4A7C15L;
        private static final long HASH_END = 0xBF58476D1CE4E5B9L;

        static boolean isSecret(int secret) {
            return secret >= 1 && secret < Q;
        }

        static int publicKey(int secret) {
            return (int) power(G, secret);
        }

        static long hashStep(long h, int b) {
            long mixed = (h ^ (b & 255)) * HASH_STEP;
            return mixed ^ (mixed >>> 29);
        }

        static long hashEnd(long h) {
            long mixed = h * HASH_END;
            return mixed ^ (mixed >>> 32);
        }

        static long hashLong(long h, long value) {
            long mixed = h;
            for (int shift = 56; shift >= 0; shift -= 8) {
                mixed = hashStep(mixed, (int) (value >>> shift));
            }
            return mixed;
        }

        static long hashOf(long value) {
            return hashEnd(hashLong(HASH_START, value));
        }

        static long hashOfBoth(long first, long second) {
            return hashEnd(hashLong(hashLong(HASH_START, first), second));
        }

        /** The hash is a number without sign, so it is halved before a signed division sees it. */
        static long remainder(long hash, long divisor) {
            if (divisor <= 0) {
                return 0;
            }
            return (((hash >>> 1) % divisor) * 2 + (hash & 1)) % divisor;
        }

        static long power(long base, long exponent) {
            long result = 1;
            long square = base % P;
            for (int bit = 0; bit < EXPONENT_BITS; bit++) {
                if (((exponent >>> bit) & 1) == 1) {
                    result = result * square % P;
                }
                square = square * square % P;
            }
            return result;
        }

        /** c in the higher four bytes, z in the lower four. */
        static long signature(int secret, long digest) {
            long k = 1 + remainder(hashOfBoth(secret, digest), Q - 1);
            long c = remainder(hashOfBoth(power(G, k), digest), Q);
            long z = (k + c * secret) % Q;
            return (c << 32) | z;
        }

        static boolean isRight(long signature, long publicKey, long digest) {
            long c = signature >>> 32;
            long z = signature & 0xFFFFFFFFL;
            if (c >= Q || z >= Q) {
                return false;
            }
            long r = power(G, z) * power(publicKey, Q - c) % P;
            return c == remainder(hashOfBoth(r, digest), Q);
        }
    }

    private static final class Times {
        private static final long LAST = 3155759999L;
        private static final int CHARACTERS = 15;
        private static final long DAY = 86400L;
        private static final long FOUR_YEARS = 1461L;
        private static final long YEAR_UNIT = 10000000000L;
        private static final long FIRST_DIGIT_UNIT = 10000000000000L;
        private static final int[] MONTH_DAYS = {31, 28, 31, 30, 31, 30, 31, 31, 30, 31, 30, 31};

        static boolean fits(long time) {
            return time >= 0 && time <= LAST;
        }

        /** The time as the number that its fourteen digits YYYYMMDDhhmmss make. */
        static long stamp(long time) {
            long days = time / DAY;
            long inFour = days % FOUR_YEARS;
            // The first of four years is the leap year: 366 days, so the rest starts a day later.
            long yearInFour = inFour < 366 ? 0 : (inFour - 1) / 365;
            long day = yearInFour == 0 ? inFour : (inFour - 1) % 365;
            int month = 0;
            for (int i = 0; i < 11; i++) {
                int length = MONTH_DAYS[i] + (i == 1 && yearInFour == 0 ? 1 : 0);
                if (month == i && day >= length) {
                    day -= length;
                    month++;
                }
            }
            long date = (2000 + days / FOUR_YEARS * 4 + yearInFour) * 10000
                    + (month + 1) * 100 + day + 1;
            long second = time % DAY;
            return date * 1000000 + second / 3600 * 10000 + second / 60 % 60 * 100 + second % 60;
        }

        static int character(long stamp, int i) {
            long unit = FIRST_DIGIT_UNIT;
            for (int k = 0; k < i && k < CHARACTERS; k++) {
                unit /= 10;
            }
            return unit == 0 ? 'Z' : (int) ('0' + stamp / unit % 10);
        }

        /** The seconds since the beginning of 2000, or NONE if there is no such time. */
        static long seconds(long stamp) {
            long year = stamp / YEAR_UNIT - 2000;
            int month = (int) (stamp / 100000000 % 100) - 1;
            long day = stamp / 1000000 % 100 - 1;
            long hour = stamp / 10000 % 100;
            long minute = stamp / 100 % 100;
            long second = stamp % 100;
            if (year < 0 || year > 99 || month < 0 || month >= MONTH_DAYS.length) {
                return NONE;
            }
            int leap = year % 4 == 0 ? 1 : 0;
            int length = MONTH_DAYS[month] + (month == 1 ? leap : 0);
            if (day < 0 || day >= length || hour > 23 || minute > 59 || second > 59) {
                return NONE;
            }
            long days = year * 365 + (year + 3) / 4 + day + (month > 1 ? leap : 0);
            for (int i = 0; i < month; i++) {
                days += MONTH_DAYS[i];
            }
            return days * DAY + hour * 3600 + minute * 60 + second;
        }
    }

    // ---- 2 ITEMS, written

    private static final class Bytes {
        final byte[] data;
        int length;

        Bytes(int room) {
            data = new byte[Math.max(room, 0)];
        }

        void clear() {
            length = 0;
        }

        int byteAt(int i) {
            return i >= 0 && i < length ? data[i] & 255 : NONE;
        }

        void add(int b) {
            if (length < data.length) {
                data[length] = (byte) b;
                length++;
            }
        }

        void addAll(Bytes other, int from, int count) {
            for (int i = 0; i < count; i++) {
                add(other.byteAt(from + i));
            }
        }

        void copyOf(Bytes other) {
            clear();
            addAll(other, 0, other.length);
        }

        void addLowestFirst(long row, int n) {
            for (int i = 0; i < n; i++) {
                add((int) (row >>> (8 * i)));
            }
        }

        void addHighestFirst(long value, int n) {
            for (int i = n - 1; i >= 0; i--) {
                add((int) (value >>> (8 * i)));
            }
        }

        boolean isSame(Bytes other, int from, int count) {
            if (count != length) {
                return false;
            }
            for (int i = 0; i < length; i++) {
                if (byteAt(i) != other.byteAt(from + i)) {
                    return false;
                }
            }
            return true;
        }

        long digest(int from, int end) {
            long h = Numbers.HASH_START;
            for (int i = from; i < end; i++) {
                h = Numbers.hashStep(h, byteAt(i));
            }
            return Numbers.hashEnd(h);
        }

        /** Begins an item of this sort: its place, which close() wants. */
        int open(int sort) {
            int place = length;
            add(sort);
            return place;
        }

        /** Ends an item: only now is its length known, so what it has moves aside for that. */
        void close(int place) {
            int count = length - place - 1;
            int wide = count < 128 ? 1 : count < 256 ? 2 : 3;
            if (place < 0 || count < 0 || length + wide > data.length) {
                return;
            }
            for (int i = length - 1; i > place; i--) {
                data[i + wide] = data[i];
            }
            length += wide;
            if (wide > 1) {
                data[place + 1] = (byte) (127 + wide);
            }
            if (wide > 2) {
                data[place + 2] = (byte) (count >> 8);
            }
            data[place + wide] = (byte) count;
        }

        void addInteger(long value) {
            int n = 1;
            while (n < LONG_BYTES && value >> (8 * n - 1) != 0) {
                n++;
            }
            int place = open(INTEGER);
            addHighestFirst(value, n);
            close(place);
        }

        void addBytes(Bytes from, int at, int count) {
            int place = open(BYTES);
            addAll(from, at, count);
            close(place);
        }

        void addTaggedBytes(int tag, Bytes from, int at, int count) {
            int place = open(TAGGED + tag);
            addBytes(from, at, count);
            close(place);
        }

        void addHash(long hash) {
            int place = open(BYTES);
            addHighestFirst(hash, LONG_BYTES);
            close(place);
        }

        void addCode(int code) {
            int place = open(CODE);
            add(code);
            close(place);
        }

        void addTime(long time) {
            long stamp = Times.stamp(time);
            int place = open(TIME);
            for (int i = 0; i < Times.CHARACTERS; i++) {
                add(Times.character(stamp, i));
            }
            close(place);
        }

        void addSignature(long signature) {
            int place = open(BITS);
            add(0);
            addHighestFirst(signature, LONG_BYTES);
            close(place);
        }

        void addId(Ids ids, int i) {
            if (i < 0 || i >= ids.count) {
                return;
            }
            int place = open(ROW);
            addHash(ids.nameHashes[i]);
            addHash(ids.keyHashes[i]);
            addInteger(ids.serials[i]);
            close(place);
        }
    }

    // ---- 3 AUTHORITIES

    private static final class Authority {
        final Bytes name = new Bytes(NAME_ROOM);
        final int[] serials = new int[MOST_SERIALS];
        final long[] since = new long[MOST_SERIALS];
        final int[] reasons = new int[MOST_SERIALS];
        int secret;
        int publicKey;
        long nameHash;
        long keyHash;
        int issued;
        int takenBack;

        void begin(Bytes ownName, int ownSecret) {
            name.copyOf(ownName);
            secret = ownSecret;
            publicKey = Numbers.publicKey(ownSecret);
            nameHash = name.digest(0, name.length);
            keyHash = Numbers.hashOf(publicKey);
        }

        boolean hasRoomFor(int serial) {
            return issued < MOST_SERIALS || placeOf(serial) != NONE;
        }

        void enlist(int serial) {
            if (issued < MOST_SERIALS && placeOf(serial) == NONE) {
                serials[issued] = serial;
                since[issued] = NONE;
                issued++;
            }
        }

        int placeOf(int serial) {
            for (int i = 0; i < issued; i++) {
                if (serials[i] == serial) {
                    return i;
                }
            }
            return NONE;
        }

        boolean isTakenBack(int place, long time) {
            return place >= 0 && place < issued && since[place] != NONE && since[place] <= time;
        }
    }

    private static final class Signer {
        final Bytes text = new Bytes(CERT_ROOM);
        int owner;
        int secret;
        int publicKey;
        long keyHash;

        void begin(int authority, int ownSecret) {
            owner = authority;
            secret = ownSecret;
            publicKey = Numbers.publicKey(ownSecret);
            keyHash = Numbers.hashOf(publicKey);
        }

        void writeCert(Authority by, Bytes name, int serial, long from, long to, int flags) {
            text.clear();
            int whole = text.open(ROW);
            int inner = text.open(ROW);
            text.addInteger(serial);
            text.addBytes(by.name, 0, by.name.length);
            text.addBytes(name, 0, name.length);
            text.addTime(from);
            text.addTime(to);
            text.addInteger(publicKey);
            text.addInteger(flags);
            text.close(inner);
            text.addSignature(Numbers.signature(by.secret, text.digest(inner, text.length)));
            text.close(whole);
        }
    }

    private static final class Ids {
        final long[] nameHashes = new long[MOST_IDS];
        final long[] keyHashes = new long[MOST_IDS];
        final int[] serials = new int[MOST_IDS];
        int count;

        void add(long nameHash, long keyHash, int serial) {
            if (count < MOST_IDS) {
                nameHashes[count] = nameHash;
                keyHashes[count] = keyHash;
                serials[count] = serial;
                count++;
            }
        }

        void read(Scan scan) {
            scan.open(ROW);
            long nameHash = scan.readHash();
            long keyHash = scan.readHash();
            int serial = (int) scan.readInteger(0, LAST_SERIAL);
            scan.close();
            add(nameHash, keyHash, serial);
        }

        boolean isOf(int i, long nameHash, long keyHash) {
            return i >= 0 && i < count && nameHashes[i] == nameHash && keyHashes[i] == keyHash;
        }

        int placeOf(long nameHash, long keyHash, int serial) {
            for (int i = 0; i < count; i++) {
                if (isOf(i, nameHash, keyHash) && serials[i] == serial) {
                    return i;
                }
            }
            return NONE;
        }
    }

    // ---- 2 ITEMS, read

    /**
     * Goes over a text, item by item. The first fault stays: whatever is read behind it reads
     * nothing, so a reader of texts need not ask after each item.
     */
    private static final class Scan {
        private static final int MOST_DEPTH = 12;

        final int[] outerEnds = new int[MOST_DEPTH];
        byte[] data = new byte[0];
        int depth;
        int end;
        int at;
        int place;
        int size;
        int fault;
        int items;

        void begin(Bytes text) {
            data = text.data;
            depth = 0;
            end = Math.min(text.length, data.length);
            at = 0;
            place = 0;
            size = 0;
            fault = NONE;
            items = 0;
        }

        boolean hasMore() {
            return fault == NONE && at < end;
        }

        int sortAhead() {
            return fault == NONE && at < end ? data[at] & 255 : NONE;
        }

        /** Goes in front of what an item has, if it is of this sort and its length fits. */
        boolean enter(int sort, int least, int most) {
            place = at;
            if (sortAhead() != sort || !passLength() || size < least || size > most) {
                fail();
                return false;
            }
            items++;
            return true;
        }

        /** An item that lacks is told by the place where it should have begun, like a wrong one. */
        void fail() {
            if (fault == NONE) {
                fault = place;
            }
            size = 0;
        }

        private boolean passLength() {
            int head = at + 2;
            if (head > end) {
                return false;
            }
            int first = data[at + 1] & 255;
            int more = first < 128 ? 0 : first - 128;
            if (first == 128 || more > 2 || head + more > end) {
                return false;
            }
            int length = first;
            if (more == 1) {
                length = data[head] & 255;
            } else if (more == 2) {
                length = (data[head] & 255) * 256 + (data[head + 1] & 255);
            }
            int shortest = more == 0 ? 0 : more == 1 ? 128 : 256;
            if (length < shortest || head + more + length > end) {
                return false;
            }
            at = head + more;
            size = length;
            return true;
        }

        void open(int sort) {
            if (!enter(sort, 0, TAPE_ROOM)) {
                return;
            }
            if (depth >= MOST_DEPTH) {
                fail();
                return;
            }
            outerEnds[depth] = end;
            depth++;
            end = at + size;
        }

        void close() {
            endText();
            if (fault == NONE && depth > 0) {
                depth--;
                end = outerEnds[depth];
            }
        }

        /** What is left where nothing may follow is a fault at its beginning. */
        void endText() {
            if (hasMore()) {
                place = at;
                fail();
            }
        }

        /** The place of the first byte; how many there are is size then. */
        int readBytes(int least, int most) {
            enter(BYTES, least, most);
            int from = at;
            at += size;
            return from;
        }

        long readHash() {
            if (!enter(BYTES, LONG_BYTES, LONG_BYTES)) {
                return 0;
            }
            return number();
        }

        long readInteger(long least, long most) {
            if (!enter(INTEGER, 1, LONG_BYTES)) {
                return 0;
            }
            boolean plain = data[at] >= 0 && (size == 1 || data[at] != 0 || data[at + 1] < 0);
            long value = number();
            if (!plain || value < least || value > most) {
                fail();
            }
            return value;
        }

        int readCode() {
            if (!enter(CODE, 1, 1)) {
                return 0;
            }
            int code = (int) number();
            if (code > LAST_CODE) {
                fail();
            }
            return code;
        }

        long readSignature() {
            if (!enter(BITS, LONG_BYTES + 1, LONG_BYTES + 1)) {
                return 0;
            }
            if (data[at] != 0) {
                fail();
            }
            // The byte 0 in front is shifted out of the nine.
            return number();
        }

        long readTime() {
            if (!enter(TIME, Times.CHARACTERS, Times.CHARACTERS)) {
                return 0;
            }
            long stamp = 0;
            boolean plain = data[at + Times.CHARACTERS - 1] == 'Z';
            for (int i = 0; i < Times.CHARACTERS - 1; i++) {
                int digit = data[at + i] - '0';
                plain = plain && digit >= 0 && digit <= 9;
                stamp = stamp * 10 + digit;
            }
            at += size;
            long time = plain ? Times.seconds(stamp) : NONE;
            if (time == NONE) {
                fail();
            }
            return time;
        }

        /** All that the entered item has, as one number, the highest byte first. */
        private long number() {
            long value = 0;
            for (int i = 0; i < size; i++) {
                value = (value << 8) | (data[at + i] & 255);
            }
            at += size;
            return value;
        }
    }

    private static final class CertText {
        int innerPlace;
        int innerEnd;
        int serial;
        int issuerPlace;
        int issuerSize;
        int namePlace;
        int nameSize;
        long from;
        long to;
        long publicKey;
        int flags;
        long signature;

        void read(Scan scan) {
            scan.open(ROW);
            innerPlace = scan.at;
            scan.open(ROW);
            serial = (int) scan.readInteger(0, LAST_SERIAL);
            issuerPlace = scan.readBytes(1, NAME_ROOM);
            issuerSize = scan.size;
            namePlace = scan.readBytes(1, NAME_ROOM);
            nameSize = scan.size;
            from = scan.readTime();
            to = scan.readTime();
            publicKey = scan.readInteger(2, Numbers.P - 1);
            flags = (int) scan.readInteger(0, LAST_FLAGS);
            scan.close();
            innerEnd = scan.at;
            signature = scan.readSignature();
            scan.close();
        }
    }

    private static final class AskText {
        final Ids ids = new Ids();
        int noncePlace;
        int nonceSize;

        void read(Scan scan) {
            ids.count = 0;
            nonceSize = 0;
            scan.open(ROW);
            scan.open(ROW);
            for (int i = 0; i < MOST_IDS && (i == 0 || scan.hasMore()); i++) {
                ids.read(scan);
            }
            scan.close();
            if (scan.hasMore()) {
                scan.open(TAGGED + 2);
                noncePlace = scan.readBytes(1, NONCE_ROOM);
                nonceSize = scan.size;
                scan.close();
            }
            scan.close();
            scan.endText();
        }
    }

    private static final class AnswerText {
        final Ids ids = new Ids();
        final int[] states = new int[MOST_IDS];
        final long[] since = new long[MOST_IDS];
        final int[] reasons = new int[MOST_IDS];
        final long[] from = new long[MOST_IDS];
        final long[] next = new long[MOST_IDS];
        final CertText cert = new CertText();
        int status;
        boolean hasCert;
        int bodyPlace;
        int bodyEnd;
        long signature;
        boolean isByName;
        int tellerPlace;
        int tellerSize;
        long tellerHash;
        int noncePlace;
        int nonceSize;

        void read(Scan scan) {
            ids.count = 0;
            nonceSize = 0;
            hasCert = false;
            scan.open(ROW);
            status = scan.readCode();
            if (status == STATUS_RIGHT) {
                scan.open(TAGGED);
                scan.open(ROW);
                readBodyTop(scan);
                for (int i = 0; i < MOST_IDS && (i == 0 || scan.hasMore()); i++) {
                    readSingle(scan, i);
                }
                readBodyRest(scan);
                signature = scan.readSignature();
                readCert(scan);
                scan.close();
                scan.close();
            }
            scan.close();
            scan.endText();
        }

        /** Up to the first single: the loop over these stands in read(), to keep calls shallow. */
        private void readBodyTop(Scan scan) {
            bodyPlace = scan.at;
            scan.open(ROW);
            readTeller(scan);
            scan.readTime();
            scan.open(ROW);
        }

        private void readBodyRest(Scan scan) {
            scan.close();
            if (scan.hasMore()) {
                scan.open(TAGGED + 3);
                noncePlace = scan.readBytes(1, NONCE_ROOM);
                nonceSize = scan.size;
                scan.close();
            }
            scan.close();
            bodyEnd = scan.at;
        }

        private void readCert(Scan scan) {
            hasCert = scan.hasMore();
            if (hasCert) {
                scan.open(TAGGED);
                cert.read(scan);
                scan.close();
            }
        }

        private void readTeller(Scan scan) {
            isByName = scan.sortAhead() != TAGGED + 2;
            if (isByName) {
                scan.open(TAGGED + 1);
                tellerPlace = scan.readBytes(1, NAME_ROOM);
                tellerSize = scan.size;
            } else {
                scan.open(TAGGED + 2);
                tellerHash = scan.readHash();
            }
            scan.close();
        }

        private void readSingle(Scan scan, int i) {
            if (i < 0 || i >= MOST_IDS) {
                return;
            }
            scan.open(ROW);
            ids.read(scan);
            readState(scan, i);
            from[i] = scan.readTime();
            next[i] = NONE;
            if (scan.hasMore()) {
                scan.open(TAGGED);
                next[i] = scan.readTime();
                scan.close();
            }
            scan.close();
        }

        private void readState(Scan scan, int i) {
            if (i < 0 || i >= MOST_IDS) {
                return;
            }
            int sort = scan.sortAhead();
            since[i] = NONE;
            reasons[i] = NONE;
            if (sort == TAGGED + 1) {
                states[i] = TAKEN_BACK;
                scan.open(sort);
                since[i] = scan.readTime();
                reasons[i] = scan.readCode();
                scan.close();
            } else if (sort == STATE_NOT_KNOWN) {
                states[i] = NOT_KNOWN;
                scan.enter(sort, 0, 0);
            } else {
                states[i] = GOOD;
                scan.enter(STATE_GOOD, 0, 0);
            }
        }

        boolean isToldBy(Bytes text, Bytes name, long keyHash) {
            return isByName ? name.isSame(text, tellerPlace, tellerSize) : tellerHash == keyHash;
        }

        boolean isToldByCert(Bytes text) {
            if (!isByName) {
                return tellerHash == Numbers.hashOf(cert.publicKey);
            }
            boolean same = tellerSize == cert.nameSize;
            for (int i = 0; same && i < tellerSize; i++) {
                same = text.byteAt(tellerPlace + i) == text.byteAt(cert.namePlace + i);
            }
            return same;
        }

        int verdictOnSingle(int i, long time, int slack, int age) {
            if (i < 0 || i >= ids.count) {
                return ID_LACKS;
            }
            if (from[i] > time + slack) {
                return THIS_TOO_LATE;
            }
            if (next[i] == NONE) {
                return from[i] < time - age ? THIS_TOO_OLD : states[i];
            }
            return next[i] < time - slack || next[i] < from[i] ? NEXT_TOO_EARLY : states[i];
        }
    }

    // ---- 4 FINDS

    /** Before any find all that is asked of it is NONE. */
    private static final class Find {
        int authority = NONE;
        int serial = NONE;
        int state = NONE;
        long since = NONE;
        int reason = NONE;
        long from = NONE;
        long next = NONE;

        void begin(int ofAuthority, int ofSerial) {
            authority = ofAuthority;
            serial = ofSerial;
        }

        void takeSingle(AnswerText text, int i, int age) {
            if (i < 0 || i >= text.ids.count) {
                return;
            }
            state = text.states[i];
            since = text.since[i];
            reason = text.reasons[i];
            from = text.from[i];
            next = text.next[i] == NONE ? text.from[i] + age : text.next[i];
        }

        void copyOf(Find other) {
            authority = other.authority;
            serial = other.serial;
            state = other.state;
            since = other.since;
            reason = other.reason;
            from = other.from;
            next = other.next;
        }
    }
}
