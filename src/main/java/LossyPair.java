/**
 * Two sides that agree on keys over a net that loses, doubles, mixes up and forges datagrams, in the
 * way of DTLS 1.3. The words in capitals are those of the document.
 *
 * <p>All rows are made once, with the object; octets stand in them as ints from 0 to 255.
 */
public final class LossyPair {
    public static final int NONE = -1;

    private static final int CLIENT = 0;
    private static final int SERVER = 1;

    private static final int RESTING = 0;
    private static final int WAITING = 1;
    private static final int OPEN = 2;
    private static final int CLOSED = 3;
    private static final int DEAD = 4;

    private static final int ALERT = 21;
    private static final int HANDSHAKE = 22;
    private static final int DATA = 23;
    private static final int ACK = 26;
    private static final int SEALED = 32;

    private static final int HELLO = 1;
    private static final int ANSWER = 2;
    private static final int RETRY = 6;
    private static final int SETTINGS = 8;
    private static final int FINISHED = 20;

    private static final int NO_ALERT = 0;
    private static final int NOT_AWAITED = 10;
    private static final int OTHER_NAME = 40;
    private static final int SHARE_UNWANTED = 47;
    private static final int NOT_RIGHT = 51;
    /** What judging a HELLO may answer beside an ALERT; above all of these. */
    private static final int WANTS_COOKIE = 1000;

    private static final int MALFORMED = 0;
    private static final int EARLY = 1;
    private static final int STALE = 2;
    private static final int FORGED = 3;
    private static final int CAME = 4;

    private static final int DUE_NOTHING = 0;
    private static final int DUE_HELLO = 1;
    private static final int DUE_AGAIN = 2;
    private static final int DUE_ACKS = 3;

    private static final int HAND = 4;
    private static final int MAIN = 5;

    private static final int LEAST_MTU = 100;
    private static final int MOST_OCTETS = 500;
    private static final int MOST_IN_NET = 60;
    private static final int MOST_WRITINGS = 100;
    private static final int MOST_WRITTEN = 60;
    private static final int MOST_GREETING = 150;
    private static final int MOST_TIMES = 100;
    private static final int LAST_NUMBER = 65535;
    private static final int MOST_AGAIN = 8;
    private static final int MOST_KEPT = 5;
    private static final int MOST_LISTED = 8;
    private static final int FIRST_TIMER = 4;
    private static final int LONGEST_TIMER = 32;
    private static final int ACKS_AFTER = 2;
    private static final int TOLD_THINGS = 13;

    private static final int OPEN_HEAD = 6;
    private static final int SEALED_HEAD = 5;
    private static final int TAG = 8;
    private static final int SEALED_TAIL = 9;
    private static final int FRAGMENT_HEAD = 8;
    /** A record has a head of 5 octets at least, so no datagram has more of them. */
    private static final int MOST_RECORDS = MOST_OCTETS / SEALED_HEAD;

    private static final int RANDOM_OCTETS = 16;
    private static final int COOKIE_OCTETS = 16;
    private static final int HASH_OCTETS = 32;
    private static final int SHORT_HELLO = 61;
    private static final int ANSWER_OCTETS = 20;
    private static final int MOST_BODY = 2 + MOST_GREETING;
    private static final int MOST_FLIGHT = ANSWER_OCTETS + MOST_BODY + HASH_OCTETS;
    /** The four MESSAGES of which T is made: HELLO, ANSWER, SETTINGS, FINISHED, each with 3 octets ahead. */
    private static final int MOST_TRANSCRIPT = 80 + 23 + 3 + MOST_BODY + 35;

    private static final long PRIME = 2147483647L;
    private static final long BASE = 7L;

    private static final int BLOCK = 64;
    /** TAG is made of the most: 4 octets, a head, and what is sealed of a datagram; and a block for the key. */
    private static final int HASH_MOST = 568;
    private static final int HASH_ROW = 704;

    private static final int[] FIRST_WORDS = {
        0x6a09e667, 0xbb67ae85, 0x3c6ef372, 0xa54ff53a, 0x510e527f, 0x9b05688c, 0x1f83d9ab, 0x5be0cd19
    };

    private static final int[] ROUND_WORDS = {
        0x428a2f98, 0x71374491, 0xb5c0fbcf, 0xe9b5dba5, 0x3956c25b, 0x59f111f1, 0x923f82a4, 0xab1c5ed5,
        0xd807aa98, 0x12835b01, 0x243185be, 0x550c7dc3, 0x72be5d74, 0x80deb1fe, 0x9bdc06a7, 0xc19bf174,
        0xe49b69c1, 0xefbe4786, 0x0fc19dc6, 0x240ca1cc, 0x2de92c6f, 0x4a7484aa, 0x5cb0a9dc, 0x76f988da,
        0x983e5152, 0xa831c66d, 0xb00327c8, 0xbf597fc7, 0xc6e00bf3, 0xd5a79147, 0x06ca6351, 0x14292967,
        0x27b70a85, 0x2e1b2138, 0x4d2c6dfc, 0x53380d13, 0x650a7354, 0x766a0abb, 0x81c2c92e, 0x92722c85,
        0xa2bfe8a1, 0xa81a664b, 0xc24b8b70, 0xc76c51a3, 0xd192e819, 0xd6990624, 0xf40e3585, 0x106aa070,
        0x19a4c116, 0x1e376c08, 0x2748774c, 0x34b0bcb5, 0x391c0cb3, 0x4ed8aa4a, 0x5b9cca4f, 0x682e6ff3,
        0x748f82ee, 0x78a5636f, 0x84c87814, 0x8cc70208, 0x90befffa, 0xa4506ceb, 0xbef9a3f7, 0xc67178f2
    };

    private final Rows[] nets = new Rows[2];
    private final Side[] sides = new Side[2];
    private final Arrival arrival = new Arrival();
    private final int[] drafted = new int[MOST_OCTETS];
    private int draftedMany;
    private int now;

    public LossyPair() {
        Sha sha = new Sha();
        Rows toClient = new Rows(MOST_IN_NET, MOST_OCTETS);
        Rows toServer = new Rows(MOST_IN_NET, MOST_OCTETS);
        nets[CLIENT] = toClient;
        nets[SERVER] = toServer;
        sides[CLIENT] = new Side(CLIENT, sha, toServer);
        sides[SERVER] = new Side(SERVER, sha, toClient);
        startAnew(0, 200);
    }

    public void make(int wants, int mtu) throws IllegalArgumentException {
        if (wants < 0 || wants > 7) {
            throw new IllegalArgumentException("wants is 0 to 7");
        }
        if (mtu < LEAST_MTU || mtu > MOST_OCTETS) {
            throw new IllegalArgumentException("mtu is 100 to 500");
        }
        startAnew(wants, mtu);
    }

    public void key(int side, long high, long low)
            throws IndexOutOfBoundsException, IllegalStateException {
        checkSide(side);
        checkNotBegun();
        putLong(high, sides[side].traits.sharedKey, 0);
        putLong(low, sides[side].traits.sharedKey, 8);
    }

    public void name(int side, long name, long seed)
            throws IndexOutOfBoundsException, IllegalStateException {
        checkSide(side);
        checkNotBegun();
        putLong(name, sides[side].traits.ownName, 0);
        putLong(seed, sides[side].traits.seed, 0);
    }

    public int draft(int n, long octets) throws IllegalArgumentException {
        if (n < 1 || n > 8) {
            throw new IllegalArgumentException("n is 1 to 8");
        }
        if (draftedMany + n > MOST_OCTETS) {
            throw new IllegalArgumentException("THE DRAFT has at most 500 octets");
        }
        for (int i = 0; i < n; i++) {
            drafted[draftedMany + i] = (int) (octets >>> (8 * i)) & 255;
        }
        draftedMany += n;
        return draftedMany;
    }

    public int greet() throws IllegalStateException, IllegalArgumentException {
        checkNotBegun();
        if (draftedMany > MOST_GREETING) {
            throw new IllegalArgumentException("a GREETING has at most 150 octets");
        }
        Traits traits = sides[SERVER].traits;
        System.arraycopy(drafted, 0, traits.greeting, 0, draftedMany);
        traits.greetingMany = draftedMany;
        draftedMany = 0;
        return traits.greetingMany;
    }

    public int begin() throws IllegalStateException {
        checkNotBegun();
        Side client = sides[CLIENT];
        int before = client.sender.sent;
        client.drawHello();
        client.composeHello(0);
        client.startFlight();
        client.sendFlight();
        return client.sender.sent - before;
    }

    public int write(int side)
            throws IndexOutOfBoundsException, IllegalStateException, IllegalArgumentException {
        checkSide(side);
        checkOpen(side);
        if (draftedMany < 1 || draftedMany > MOST_WRITTEN) {
            throw new IllegalArgumentException("a writing has 1 to 60 octets");
        }
        int number = sides[side].sendData(drafted, draftedMany);
        if (number != NONE) {
            draftedMany = 0;
        }
        return number;
    }

    public void close(int side) throws IndexOutOfBoundsException, IllegalStateException {
        checkSide(side);
        checkOpen(side);
        sides[side].sendAlert(NO_ALERT);
        sides[side].phase = CLOSED;
    }

    public int tick() {
        passTick();
        return now;
    }

    public int net(int side) throws IndexOutOfBoundsException {
        checkSide(side);
        return nets[side].many;
    }

    public int size(int side, int i) throws IndexOutOfBoundsException {
        checkDatagram(side, i);
        return nets[side].lengthOf(i);
    }

    public int octet(int side, int i, int k) throws IndexOutOfBoundsException {
        checkOctet(side, i, k);
        return nets[side].octetOf(i, k);
    }

    public int deliver(int side, int i) throws IndexOutOfBoundsException {
        checkDatagram(side, i);
        return come(side, i);
    }

    public int lose(int side, int i) throws IndexOutOfBoundsException {
        checkDatagram(side, i);
        nets[side].drop(i);
        return nets[side].many;
    }

    public int twice(int side, int i) throws IndexOutOfBoundsException {
        checkDatagram(side, i);
        return nets[side].addCopy(i) ? nets[side].many : NONE;
    }

    public int forge(int side, int i, int k, int mask) throws IndexOutOfBoundsException {
        checkOctet(side, i, k);
        nets[side].turnOctet(i, k, mask);
        return nets[side].octetOf(i, k);
    }

    public int inject(int side) throws IndexOutOfBoundsException {
        checkSide(side);
        if (draftedMany == 0 || !nets[side].add(drafted, draftedMany)) {
            return NONE;
        }
        draftedMany = 0;
        return nets[side].many;
    }

    public int run(int times) throws IllegalArgumentException {
        if (times < 0 || times > MOST_TIMES) {
            throw new IllegalArgumentException("times is 0 to 100");
        }
        int came = 0;
        for (int t = 0; t < times; t++) {
            for (int side = SERVER; side >= CLIENT; side--) {
                int there = nets[side].many;
                for (int n = 0; n < there && nets[side].many > 0; n++) {
                    come(side, 0);
                    came++;
                }
            }
            passTick();
        }
        return came;
    }

    public int state(int side) throws IndexOutOfBoundsException {
        checkSide(side);
        return sides[side].phase;
    }

    public int got(int side) throws IndexOutOfBoundsException {
        checkSide(side);
        return sides[side].delivered;
    }

    public int gotOctet(int side, int k, int i) throws IndexOutOfBoundsException {
        checkSide(side);
        Rows writings = sides[side].writings;
        int earlier = sides[side].delivered - writings.many;
        if (k < earlier || k >= sides[side].delivered) {
            throw new IndexOutOfBoundsException("no such writing");
        }
        if (i == NONE) {
            return writings.lengthOf(k - earlier);
        }
        if (i < 0 || i >= writings.lengthOf(k - earlier)) {
            throw new IndexOutOfBoundsException("no such octet");
        }
        return writings.octetOf(k - earlier, i);
    }

    public int secret(int side, int which, int i) throws IndexOutOfBoundsException {
        checkSide(side);
        if (which < 0 || which > MAIN || i < 0 || i >= HASH_OCTETS) {
            throw new IndexOutOfBoundsException("no such octet of a SECRET");
        }
        Schedule schedule = sides[side].schedule;
        int needed = which == 2 || which == 3 ? 3 : 2;
        return schedule.epoch >= needed ? schedule.secrets[which][i] : NONE;
    }

    public int told(int side, int what) throws IndexOutOfBoundsException {
        checkSide(side);
        if (what < 0 || what >= TOLD_THINGS) {
            throw new IndexOutOfBoundsException("nothing such is told");
        }
        return sides[side].tellOf(what);
    }

    private void startAnew(int wants, int mtu) {
        nets[CLIENT].empty();
        nets[SERVER].empty();
        sides[CLIENT].startAnew(mtu, false, (wants & 2) != 0);
        sides[SERVER].startAnew(mtu, (wants & 1) != 0, (wants & 4) != 0);
        draftedMany = 0;
        now = 0;
    }

    private void passTick() {
        now++;
        sides[CLIENT].passTick(now);
        sides[SERVER].passTick(now);
    }

    /** Goes through a datagram; what its records bring about is done one after the other, from here. */
    private int come(int side, int i) {
        Side hearer = sides[side];
        arrival.load(nets[side], i);
        nets[side].drop(i);
        int came = 0;
        for (int n = 0; n < MOST_RECORDS && arrival.hasMore() && hearer.phase != DEAD; n++) {
            if (!arrival.cutRecord()) {
                hearer.counts[MALFORMED]++;
                return came;
            }
            if (hearer.opens(arrival)) {
                came++;
                hearer.act(hearer.hear(arrival), arrival);
                for (int m = 0; m < MOST_KEPT && hearer.hasNext(); m++) {
                    hearer.takeNext();
                }
            }
        }
        return came;
    }

    private void checkSide(int side) {
        if (side != CLIENT && side != SERVER) {
            throw new IndexOutOfBoundsException("a side is 0 or 1");
        }
    }

    private void checkDatagram(int side, int i) {
        checkSide(side);
        if (i < 0 || i >= nets[side].many) {
            throw new IndexOutOfBoundsException("no such datagram");
        }
    }

    private void checkOctet(int side, int i, int k) {
        checkDatagram(side, i);
        if (k < 0 || k >= nets[side].lengthOf(i)) {
            throw new IndexOutOfBoundsException("no such octet");
        }
    }

    private void checkNotBegun() {
        if (sides[CLIENT].phase != RESTING) {
            throw new IllegalStateException("the client has begun, or is DEAD");
        }
    }

    private void checkOpen(int side) {
        if (sides[side].phase != OPEN) {
            throw new IllegalStateException("the side is not OPEN");
        }
    }

    private static void putLong(long value, int[] row, int at) {
        for (int i = 0; i < 8 && at + i < row.length; i++) {
            row[at + i] = (int) (value >>> (56 - 8 * i)) & 255;
        }
    }

    private static void putWord(int value, int[] row, int at) {
        for (int i = 0; i < 4 && at + i < row.length; i++) {
            row[at + i] = (value >>> (24 - 8 * i)) & 255;
        }
    }

    private static long wordAt(int[] row, int at) {
        long value = 0;
        for (int i = at; i < at + 4 && i < row.length; i++) {
            value = value << 8 | row[i];
        }
        return value;
    }

    private static boolean sameOctets(int[] a, int atA, int[] b, int atB, int many) {
        if (atA + many > a.length || atB + many > b.length) {
            return false;
        }
        for (int i = 0; i < many; i++) {
            if (a[atA + i] != b[atB + i]) {
                return false;
            }
        }
        return true;
    }

    private static long power(long base, long exponent) {
        long answer = 1;
        long square = base % PRIME;
        for (int bit = 0; bit < 32; bit++) {
            if ((exponent >>> bit & 1) != 0) {
                answer = answer * square % PRIME;
            }
            square = square * square % PRIME;
        }
        return answer;
    }

    private static int epochOfKind(int kind) {
        return kind == SETTINGS || kind == FINISHED ? 2 : 0;
    }

    /** SHA-256 and its MAC over one row, which is filled anew for each use. */
    private static final class Sha {
        /** A block for the key, then what was put. */
        final int[] row = new int[HASH_ROW];
        final int[] outer = new int[2 * BLOCK];
        final int[] words = new int[8];
        final int[] plan = new int[64];
        int many;

        void clear() {
            many = 0;
        }

        void put(int value) {
            if (many < HASH_MOST) {
                row[BLOCK + many] = value & 255;
                many++;
            }
        }

        void putShort(int value) {
            put(value >>> 8);
            put(value);
        }

        void putAll(int[] from, int at, int count) {
            if (at < 0 || count < 0 || at + count > from.length || many + count > HASH_MOST) {
                return;
            }
            System.arraycopy(from, at, row, BLOCK + many, count);
            many += count;
        }

        void putText(String text) {
            for (int i = 0; i < text.length(); i++) {
                put(text.charAt(i));
            }
        }

        void hashInto(int[] out) {
            int end = pad(row, BLOCK, BLOCK + many);
            startWords();
            for (int at = BLOCK; at < end; at += BLOCK) {
                mix(row, at);
            }
            storeWords(out, 0);
        }

        void macInto(int[] key, int[] out) {
            padKey(row, key, 54);
            int end = pad(row, 0, BLOCK + many);
            startWords();
            for (int at = 0; at < end; at += BLOCK) {
                mix(row, at);
            }
            storeWords(outer, BLOCK);
            padKey(outer, key, 92);
            end = pad(outer, 0, BLOCK + HASH_OCTETS);
            startWords();
            for (int at = 0; at < end; at += BLOCK) {
                mix(outer, at);
            }
            storeWords(out, 0);
        }

        void padKey(int[] block, int[] key, int mask) {
            for (int i = 0; i < BLOCK; i++) {
                block[i] = i < key.length ? key[i] ^ mask : mask;
            }
        }

        /** Answers where the last whole block ends. */
        int pad(int[] block, int from, int end) {
            int last = from + (end - from + 9 + BLOCK - 1) / BLOCK * BLOCK;
            if (last > block.length) {
                return from;
            }
            block[end] = 128;
            for (int i = end + 1; i < last - 4; i++) {
                block[i] = 0;
            }
            int bits = (end - from) * 8;
            for (int i = 0; i < 4; i++) {
                block[last - 4 + i] = bits >>> (24 - 8 * i) & 255;
            }
            return last;
        }

        void startWords() {
            for (int i = 0; i < 8; i++) {
                words[i] = FIRST_WORDS[i];
            }
        }

        void storeWords(int[] out, int at) {
            if (at + HASH_OCTETS > out.length) {
                return;
            }
            for (int i = 0; i < HASH_OCTETS; i++) {
                out[at + i] = words[i / 4] >>> (24 - 8 * (i % 4)) & 255;
            }
        }

        /** The turns are written out: this is where the calls are deepest. */
        void mix(int[] block, int at) {
            for (int t = 0; t < 16; t++) {
                int i = at + 4 * t;
                plan[t] = block[i] << 24 | block[i + 1] << 16 | block[i + 2] << 8 | block[i + 3];
            }
            for (int t = 16; t < 64; t++) {
                int u = plan[t - 15];
                int v = plan[t - 2];
                int low = (u >>> 7 | u << 25) ^ (u >>> 18 | u << 14) ^ u >>> 3;
                int high = (v >>> 17 | v << 15) ^ (v >>> 19 | v << 13) ^ v >>> 10;
                plan[t] = plan[t - 16] + low + plan[t - 7] + high;
            }
            int a = words[0];
            int b = words[1];
            int c = words[2];
            int d = words[3];
            int e = words[4];
            int f = words[5];
            int g = words[6];
            int h = words[7];
            for (int t = 0; t < 64; t++) {
                int turnedE = (e >>> 6 | e << 26) ^ (e >>> 11 | e << 21) ^ (e >>> 25 | e << 7);
                int turnedA = (a >>> 2 | a << 30) ^ (a >>> 13 | a << 19) ^ (a >>> 22 | a << 10);
                int x = h + turnedE + (e & f ^ ~e & g) + ROUND_WORDS[t] + plan[t];
                int y = turnedA + (a & b ^ a & c ^ b & c);
                h = g;
                g = f;
                f = e;
                e = d + x;
                d = c;
                c = b;
                b = a;
                a = x + y;
            }
            words[0] += a;
            words[1] += b;
            words[2] += c;
            words[3] += d;
            words[4] += e;
            words[5] += f;
            words[6] += g;
            words[7] += h;
        }
    }

    /** Rows of octets in an order; one that goes leaves its place to one that comes. */
    private static final class Rows {
        final int most;
        final int width;
        final int[][] cells;
        final int[] lengths;
        final int[] order;
        int many;

        Rows(int most, int width) {
            this.most = most;
            this.width = width;
            cells = new int[most][width];
            lengths = new int[most];
            order = new int[most];
            for (int i = 0; i < most; i++) {
                order[i] = i;
            }
        }

        void empty() {
            many = 0;
        }

        boolean add(int[] octets, int length) {
            if (many >= most || length < 0 || length > width || length > octets.length) {
                return false;
            }
            int place = order[many];
            System.arraycopy(octets, 0, cells[place], 0, length);
            lengths[place] = length;
            many++;
            return true;
        }

        boolean addCopy(int i) {
            return i >= 0 && i < many && add(cells[order[i]], lengths[order[i]]);
        }

        void drop(int i) {
            if (i < 0 || i >= many) {
                return;
            }
            int place = order[i];
            for (int j = i; j < many - 1; j++) {
                order[j] = order[j + 1];
            }
            many--;
            order[many] = place;
        }

        int lengthOf(int i) {
            return i >= 0 && i < many ? lengths[order[i]] : 0;
        }

        int octetOf(int i, int k) {
            return k >= 0 && k < lengthOf(i) ? cells[order[i]][k] : 0;
        }

        /** Answers how many octets there are. */
        int copyInto(int[] row, int i) {
            int length = Math.min(lengthOf(i), row.length);
            if (length > 0) {
                System.arraycopy(cells[order[i]], 0, row, 0, length);
            }
            return length;
        }

        void turnOctet(int i, int k, int mask) {
            if (k >= 0 && k < lengthOf(i)) {
                cells[order[i]][k] ^= mask & 255;
            }
        }
    }

    /** Which numbers of one EPOCH came: the greatest, and a bit for it and each of the 63 below. */
    private static final class Window {
        int greatest;
        long bits;

        void startAnew() {
            greatest = -1;
            bits = 0;
        }

        boolean refuses(int number) {
            int below = greatest - number;
            return below >= 64 || below >= 0 && (bits >>> below & 1) != 0;
        }

        void mark(int number) {
            int above = number - greatest;
            if (above > 0) {
                bits = above >= 64 ? 1 : bits << above | 1;
                greatest = number;
            } else if (above > -64) {
                bits |= 1L << -above;
            }
        }
    }

    /** What a side was given, and what it drew by CHANCE. */
    private static final class Traits {
        final int[] sharedKey = new int[16];
        final int[] ownName = new int[8];
        final int[] seed = new int[8];
        final int[] greeting = new int[MOST_GREETING];
        int greetingMany;
        boolean wantsCookies;
        boolean wantsShare;
        int mtu;
        int chances;
        final int[] random = new int[RANDOM_OCTETS];
        final int[] cookie = new int[COOKIE_OCTETS];
        int cookieMany;
        int share;
        long ownNumber;
        int helloNumber;

        void startAnew(int mtu, boolean wantsCookies, boolean wantsShare) {
            this.mtu = mtu;
            this.wantsCookies = wantsCookies;
            this.wantsShare = wantsShare;
            putLong(0, sharedKey, 0);
            putLong(0, sharedKey, 8);
            putLong(0, ownName, 0);
            putLong(0, seed, 0);
            greetingMany = 0;
            chances = 0;
            cookieMany = 0;
            share = 0;
            ownNumber = 0;
            helloNumber = 0;
        }

        void chanceInto(Sha sha, int side, int[] out) {
            sha.clear();
            sha.put(side);
            sha.putShort(chances);
            chances++;
            sha.macInto(seed, out);
        }

        void drawRandom(Sha sha, int side, int[] room) {
            chanceInto(sha, side, room);
            System.arraycopy(room, 0, random, 0, RANDOM_OCTETS);
        }

        void drawShare(Sha sha, int side, int[] room) {
            chanceInto(sha, side, room);
            ownNumber = wordAt(room, 0) % (PRIME - 1) + 1;
            share = (int) power(BASE, ownNumber);
        }
    }

    /** SECRETS and KEYS of both sides as one side has them, and the MESSAGES that they hang on. */
    private static final class Schedule {
        final Sha sha;
        /** EPOCH 2 client's, server's, EPOCH 3 client's, server's, HAND, MAIN. */
        final int[][] secrets = new int[6][HASH_OCTETS];
        final int[][] keys = new int[4][HASH_OCTETS];
        final int[][] masks = new int[4][HASH_OCTETS];
        final int[] transcript = new int[MOST_TRANSCRIPT];
        final int[] early = new int[HASH_OCTETS];
        final int[] work = new int[HASH_OCTETS];
        final int[] digest = new int[HASH_OCTETS];
        final int[] stream = new int[HASH_OCTETS];
        final int[] zeros = new int[HASH_OCTETS];
        int transcriptMany;
        /** The greatest EPOCH of which there are SECRETS. */
        int epoch;

        Schedule(Sha sha) {
            this.sha = sha;
        }

        void startAnew() {
            transcriptMany = 0;
            epoch = 0;
        }

        void addMessage(int kind, int[] body, int at, int length) {
            int end = transcriptMany + 3 + length;
            if (end > transcript.length || at < 0 || length < 0 || at + length > body.length) {
                return;
            }
            transcript[transcriptMany] = kind;
            transcript[transcriptMany + 1] = length >>> 8;
            transcript[transcriptMany + 2] = length & 255;
            System.arraycopy(body, at, transcript, transcriptMany + 3, length);
            transcriptMany = end;
        }

        void startWithHello(int[] body, int at, int length) {
            transcriptMany = 0;
            addMessage(HELLO, body, at, length);
        }

        void setBinder(int[] binder) {
            if (transcriptMany >= HASH_OCTETS && binder.length >= HASH_OCTETS) {
                System.arraycopy(binder, 0, transcript, transcriptMany - HASH_OCTETS, HASH_OCTETS);
            }
        }

        void digestAllBut(int last) {
            sha.clear();
            sha.putAll(transcript, 0, transcriptMany - last);
            sha.hashInto(digest);
        }

        void makeEarly(int[] sharedKey) {
            sha.clear();
            sha.putAll(sharedKey, 0, sharedKey.length);
            sha.macInto(zeros, early);
        }

        void expand(int[] from, String label, int[] out) {
            sha.clear();
            sha.put(label.length());
            sha.putText(label);
            sha.put(0);
            sha.macInto(from, out);
        }

        void expandDigest(int[] from, String label, int[] out) {
            sha.clear();
            sha.put(label.length());
            sha.putText(label);
            sha.put(HASH_OCTETS);
            sha.putAll(digest, 0, HASH_OCTETS);
            sha.macInto(from, out);
        }

        /** The BINDER of the HELLO with which the transcript starts. */
        void binderInto(int[] sharedKey, int[] out) {
            makeEarly(sharedKey);
            expand(early, "binder", work);
            digestAllBut(HASH_OCTETS);
            sha.clear();
            sha.putAll(digest, 0, HASH_OCTETS);
            sha.macInto(work, out);
        }

        /** The transcript ends with ANSWER. */
        void enterHandshake(int[] sharedKey, int both) {
            makeEarly(sharedKey);
            expand(early, "derived", work);
            sha.clear();
            sha.putShort(both >>> 16);
            sha.putShort(both);
            sha.macInto(work, secrets[HAND]);
            expand(secrets[HAND], "derived", work);
            sha.clear();
            sha.putAll(zeros, 0, HASH_OCTETS);
            sha.macInto(work, secrets[MAIN]);
            digestAllBut(0);
            expandDigest(secrets[HAND], "chs", secrets[CLIENT]);
            expandDigest(secrets[HAND], "shs", secrets[SERVER]);
            for (int which = 0; which < 2; which++) {
                expand(secrets[which], "key", keys[which]);
                expand(secrets[which], "sn", masks[which]);
            }
            epoch = 2;
        }

        /** The transcript ends with the server's FINISHED. */
        void enterData() {
            digestAllBut(0);
            expandDigest(secrets[MAIN], "cap", secrets[2 + CLIENT]);
            expandDigest(secrets[MAIN], "sap", secrets[2 + SERVER]);
            for (int which = 2; which < keys.length; which++) {
                expand(secrets[which], "key", keys[which]);
                expand(secrets[which], "sn", masks[which]);
            }
            epoch = 3;
        }

        void finishedInto(int sender, int[] out) {
            expand(secrets[sender], "finished", work);
            digestAllBut(0);
            sha.clear();
            sha.putAll(digest, 0, HASH_OCTETS);
            sha.macInto(work, out);
        }

        int whichKey(int ofEpoch, int sender) {
            return (ofEpoch - 2) * 2 + sender;
        }

        /** Seals or opens the octets behind the head at a place of a row; the number in it is not masked. */
        void veil(int[] row, int at, int which, int count) {
            int from = at + SEALED_HEAD;
            if (from + count > row.length) {
                return;
            }
            for (int i = 0; i * HASH_OCTETS < count; i++) {
                sha.clear();
                sha.put(1);
                sha.put(row[at] - SEALED);
                sha.putAll(row, at + 1, 2);
                sha.put(i);
                sha.macInto(keys[which], stream);
                for (int k = 0; k < HASH_OCTETS && i * HASH_OCTETS + k < count; k++) {
                    row[from + i * HASH_OCTETS + k] ^= stream[k];
                }
            }
        }

        /** The TAG, as the first octets of what is answered. */
        int[] tagOf(int[] row, int at, int which, int count) {
            sha.clear();
            sha.put(2);
            sha.put(row[at] - SEALED);
            sha.putAll(row, at + 1, 2);
            sha.putAll(row, at, SEALED_HEAD + count);
            sha.macInto(keys[which], stream);
            return stream;
        }

        int maskOf(int[] row, int tagAt, int which) {
            sha.clear();
            sha.putAll(row, tagAt, TAG);
            sha.macInto(masks[which], stream);
            return stream[0] << 8 | stream[1];
        }
    }

    /** The datagram that a side begins, and the numbers of its records. */
    private static final class Sender {
        final int side;
        final Rows way;
        final Schedule schedule;
        final int[] row = new int[MOST_OCTETS];
        final int[] content = new int[MOST_OCTETS];
        final int[] numbers = new int[4];
        int mtu;
        int built;
        int sent;

        Sender(int side, Rows way, Schedule schedule) {
            this.side = side;
            this.way = way;
            this.schedule = schedule;
        }

        void startAnew(int mtu) {
            this.mtu = mtu;
            built = 0;
            sent = 0;
            for (int epoch = 0; epoch < numbers.length; epoch++) {
                numbers[epoch] = 0;
            }
        }

        /** How many octets of content the datagram that is begun can still have in one more record. */
        int roomFor(int epoch) {
            return mtu - built - (epoch == 0 ? OPEN_HEAD : SEALED_HEAD + SEALED_TAIL);
        }

        /** Puts a record with the first octets of the content; answers its number, or NONE behind the last one. */
        int putRecord(int epoch, int type, int length) {
            int number = numbers[epoch];
            if (number > LAST_NUMBER || length > roomFor(epoch)) {
                return NONE;
            }
            numbers[epoch] = number + 1;
            int at = built;
            if (epoch == 0) {
                row[at] = type;
                row[at + 1] = 0;
                putTwoShorts(at + 2, number, length);
                System.arraycopy(content, 0, row, at + OPEN_HEAD, length);
                built = at + OPEN_HEAD + length;
                return number;
            }
            row[at] = SEALED + epoch;
            putTwoShorts(at + 1, number, length + SEALED_TAIL);
            System.arraycopy(content, 0, row, at + SEALED_HEAD, length);
            row[at + SEALED_HEAD + length] = type;
            int which = schedule.whichKey(epoch, side);
            int tagAt = at + SEALED_HEAD + length + 1;
            schedule.veil(row, at, which, length + 1);
            System.arraycopy(schedule.tagOf(row, at, which, length + 1), 0, row, tagAt, TAG);
            int mask = schedule.maskOf(row, tagAt, which);
            row[at + 1] ^= mask >>> 8;
            row[at + 2] ^= mask & 255;
            built = tagAt + TAG;
            return number;
        }

        void putTwoShorts(int at, int first, int second) {
            row[at] = first >>> 8;
            row[at + 1] = first & 255;
            row[at + 2] = second >>> 8;
            row[at + 3] = second & 255;
        }

        /** Sends the datagram that is begun; what the net has no room for is lost, but was sent. */
        void flush() {
            if (built > 0) {
                way.add(row, built);
                sent++;
                built = 0;
            }
        }
    }

    /** The latest FLIGHT of a side: the BODIES one behind the other, and which records had which octets. */
    private static final class Flight {
        final int[] bodies = new int[MOST_FLIGHT];
        final int[] acked = new int[MOST_FLIGHT];
        final int[] kinds = new int[3];
        final int[] numbers = new int[3];
        final int[] starts = new int[4];
        final int[] loggedIds = new int[(MOST_AGAIN + 1) * MOST_FLIGHT];
        final int[] loggedFrom = new int[(MOST_AGAIN + 1) * MOST_FLIGHT];
        final int[] loggedEnd = new int[(MOST_AGAIN + 1) * MOST_FLIGHT];
        int many;
        int logged;
        int timer;
        int sentAt;
        int again;
        boolean running;

        void startAnew() {
            many = 0;
            logged = 0;
            timer = 0;
            sentAt = 0;
            again = 0;
            running = false;
        }

        void addMessage(int kind, int number, int[] body, int length) {
            if (many >= kinds.length || length > body.length || starts[many] + length > MOST_FLIGHT) {
                return;
            }
            int at = starts[many];
            System.arraycopy(body, 0, bodies, at, length);
            for (int i = at; i < at + length; i++) {
                acked[i] = 0;
            }
            kinds[many] = kind;
            numbers[many] = number;
            many++;
            starts[many] = at + length;
        }

        void sentFirst(int now) {
            timer = FIRST_TIMER;
            sentAt = now;
            running = true;
        }

        int end() {
            return starts[many];
        }

        int messageAt(int at) {
            int m = 0;
            while (m < many - 1 && at >= starts[m + 1]) {
                m++;
            }
            return m;
        }

        /** How many octets side by side from a place on were not ACKED, in one MESSAGE, up to a limit. */
        int openRun(int at, int message, int limit) {
            int i = at;
            while (i < starts[message + 1] && i < at + limit && acked[i] == 0) {
                i++;
            }
            return i - at;
        }

        void log(int epoch, int number, int from, int end) {
            if (number != NONE && logged < loggedIds.length) {
                loggedIds[logged] = epoch << 16 | number;
                loggedFrom[logged] = from;
                loggedEnd[logged] = end;
                logged++;
            }
        }

        void ackRecord(int epoch, int number) {
            int id = epoch << 16 | number;
            for (int n = 0; n < logged; n++) {
                if (loggedIds[n] == id) {
                    for (int i = loggedFrom[n]; i < loggedEnd[n]; i++) {
                        acked[i] = 1;
                    }
                }
            }
        }

        int notAcked() {
            int count = 0;
            for (int i = 0; i < end(); i++) {
                count += 1 - acked[i];
            }
            return count;
        }
    }

    /** MESSAGES of the next five NUMBERS, as far as their FRAGMENTS came. */
    private static final class Kept {
        final int[] kinds = new int[MOST_KEPT];
        final int[] lengths = new int[MOST_KEPT];
        final int[] missing = new int[MOST_KEPT];
        final int[][] bodies = new int[MOST_KEPT][MOST_BODY];
        final int[][] came = new int[MOST_KEPT][MOST_BODY];

        void startAnew() {
            for (int slot = 0; slot < MOST_KEPT; slot++) {
                kinds[slot] = NONE;
            }
        }

        boolean agrees(int number, int kind, int length) {
            int slot = number % MOST_KEPT;
            return kinds[slot] == NONE || kinds[slot] == kind && lengths[slot] == length;
        }

        void keep(Arrival a) {
            int slot = a.messageNumber % MOST_KEPT;
            if (a.from + a.count > MOST_BODY) {
                return;
            }
            if (kinds[slot] == NONE) {
                openSlot(slot, a.kind, a.length);
            }
            for (int i = 0; i < a.count; i++) {
                missing[slot] -= 1 - came[slot][a.from + i];
                came[slot][a.from + i] = 1;
                bodies[slot][a.from + i] = a.row[a.bodyAt + i];
            }
        }

        void openSlot(int slot, int kind, int length) {
            kinds[slot] = kind;
            lengths[slot] = length;
            missing[slot] = length;
            for (int i = 0; i < MOST_BODY; i++) {
                came[slot][i] = 0;
            }
        }

        boolean isWhole(int number) {
            int slot = number % MOST_KEPT;
            return kinds[slot] != NONE && missing[slot] == 0;
        }

        void free(int number) {
            kinds[number % MOST_KEPT] = NONE;
        }
    }

    /** LIST: the latest HANDSHAKE records that CAME. */
    private static final class AckList {
        final int[] epochs = new int[MOST_LISTED];
        final int[] numbers = new int[MOST_LISTED];
        int many;
        int latest;

        void startAnew() {
            many = 0;
            latest = 0;
        }

        void add(int epoch, int number, int now) {
            if (many == MOST_LISTED) {
                many--;
                System.arraycopy(epochs, 1, epochs, 0, many);
                System.arraycopy(numbers, 1, numbers, 0, many);
            }
            epochs[many] = epoch;
            numbers[many] = number;
            many++;
            latest = now;
        }

        /** Answers how many octets the entries have. */
        int putInto(int[] content) {
            for (int i = 0; i < many && 3 * i + 2 < content.length; i++) {
                content[3 * i] = epochs[i];
                content[3 * i + 1] = numbers[i] >>> 8;
                content[3 * i + 2] = numbers[i] & 255;
            }
            return 3 * many;
        }
    }

    /** The datagram that comes, its record at hand, and the FRAGMENT in it. */
    private static final class Arrival {
        final int[] row = new int[MOST_OCTETS];
        int many;
        int at;
        int next;
        int epoch;
        int type;
        int number;
        /** Where the content is, and how many octets: of a sealed record first all that is sealed. */
        int contentAt;
        int contentMany;
        int kind;
        int length;
        int messageNumber;
        int from;
        int count;
        int bodyAt;

        void load(Rows net, int i) {
            many = net.copyInto(row, i);
            next = 0;
        }

        boolean hasMore() {
            return next < many;
        }

        int shortAt(int place) {
            return place >= 0 && place + 1 < many ? row[place] << 8 | row[place + 1] : 0;
        }

        /** Whether there is a whole record; then it is the one at hand. */
        boolean cutRecord() {
            at = next;
            int first = at < many ? row[at] : 0;
            boolean sealed = first == SEALED + 2 || first == SEALED + 3;
            if (!sealed && first != ALERT && first != HANDSHAKE && first != ACK) {
                return false;
            }
            contentAt = at + (sealed ? SEALED_HEAD : OPEN_HEAD);
            if (contentAt > many || !sealed && row[at + 1] != 0) {
                return false;
            }
            contentMany = shortAt(contentAt - 2);
            if (contentAt + contentMany > many) {
                return false;
            }
            next = contentAt + contentMany;
            epoch = sealed ? first - SEALED : 0;
            type = first;
            number = shortAt(contentAt - 4);
            return true;
        }

        void unmask(int mask) {
            row[at + 1] ^= mask >>> 8;
            row[at + 2] ^= mask & 255;
            number = shortAt(at + 1);
        }

        int sealedMany() {
            return contentMany - TAG;
        }

        int tagAt() {
            return contentAt + contentMany - TAG;
        }

        /** Behind the octets that were sealed stands their type. */
        void takeType() {
            contentMany -= SEALED_TAIL;
            type = row[contentAt + contentMany];
        }

        int contentOctet(int i) {
            return i >= 0 && i < contentMany ? row[contentAt + i] : 0;
        }

        /** Whether the content is just as long as a FRAGMENT with octets of its BODY is. */
        boolean readFragment() {
            if (contentMany < FRAGMENT_HEAD) {
                return false;
            }
            kind = row[contentAt];
            length = shortAt(contentAt + 1);
            messageNumber = row[contentAt + 3];
            from = shortAt(contentAt + 4);
            count = shortAt(contentAt + 6);
            bodyAt = contentAt + FRAGMENT_HEAD;
            return count > 0 && contentMany == FRAGMENT_HEAD + count && from + count <= length;
        }
    }

    /** The client or the server. */
    private static final class Side {
        final int index;
        final Traits traits = new Traits();
        final Schedule schedule;
        final Sender sender;
        final Flight flight = new Flight();
        final Kept kept = new Kept();
        final AckList list = new AckList();
        final Window[] windows = new Window[4];
        final int[] counts = new int[5];
        final Rows writings = new Rows(MOST_WRITINGS, MOST_WRITTEN);
        final int[] body = new int[MOST_BODY];
        final int[] proof = new int[HASH_OCTETS];
        int phase;
        /** The kind that is awaited: ANSWER (or RETRY), SETTINGS, FINISHED. */
        int awaited;
        int next;
        int alert;
        int heardClose;
        int delivered;
        int againInAll;
        int now;

        Side(int index, Sha sha, Rows way) {
            this.index = index;
            schedule = new Schedule(sha);
            sender = new Sender(index, way, schedule);
            for (int epoch = 0; epoch < windows.length; epoch++) {
                windows[epoch] = new Window();
            }
        }

        void startAnew(int mtu, boolean wantsCookies, boolean wantsShare) {
            traits.startAnew(mtu, wantsCookies, wantsShare);
            schedule.startAnew();
            sender.startAnew(mtu);
            flight.startAnew();
            kept.startAnew();
            list.startAnew();
            for (int epoch = 0; epoch < windows.length; epoch++) {
                windows[epoch].startAnew();
            }
            for (int what = 0; what < counts.length; what++) {
                counts[what] = 0;
            }
            writings.empty();
            phase = RESTING;
            awaited = index == CLIENT ? ANSWER : FINISHED;
            next = 0;
            alert = NONE;
            heardClose = 0;
            delivered = 0;
            againInAll = 0;
            now = 0;
        }

        int tellOf(int what) {
            switch (what) {
                case 5:
                    return sender.sent;
                case 6:
                    return againInAll;
                case 7:
                    return flight.running ? flight.timer : 0;
                case 8:
                    return alert;
                case 9:
                    return heardClose;
                case 10:
                    return list.many;
                case 11:
                    return next;
                case 12:
                    return flight.running ? flight.notAcked() : 0;
                default:
                    return what >= 0 && what < counts.length ? counts[what] : NONE;
            }
        }

        boolean isOpen() {
            return phase == OPEN || phase == CLOSED;
        }

        void passTick(int tick) {
            now = tick;
            if (phase == WAITING && now - list.latest == ACKS_AFTER) {
                sendAcks();
            }
            if (flight.running && now - flight.sentAt == flight.timer) {
                if (flight.again >= MOST_AGAIN) {
                    die();
                } else {
                    flight.timer = Math.min(2 * flight.timer, LONGEST_TIMER);
                    countAgain();
                    sendFlight();
                }
            }
        }

        void countAgain() {
            flight.again++;
            againInAll++;
        }

        void die() {
            phase = DEAD;
            flight.running = false;
        }

        /** Whether the record at hand CAME; if not, it is counted as what it is instead. */
        boolean opens(Arrival a) {
            int refused = refusal(a);
            if (refused == CAME) {
                windows[a.epoch].mark(a.number);
            }
            counts[refused]++;
            return refused == CAME;
        }

        /** EARLY, STALE, FORGED, or CAME. */
        int refusal(Arrival a) {
            if (a.epoch == 0) {
                return windows[0].refuses(a.number) ? STALE : CAME;
            }
            if (schedule.epoch < a.epoch) {
                return EARLY;
            }
            if (a.contentMany < SEALED_TAIL) {
                return FORGED;
            }
            int which = schedule.whichKey(a.epoch, 1 - index);
            a.unmask(schedule.maskOf(a.row, a.tagAt(), which));
            if (windows[a.epoch].refuses(a.number)) {
                return STALE;
            }
            int[] tag = schedule.tagOf(a.row, a.at, which, a.sealedMany());
            if (!sameOctets(tag, 0, a.row, a.tagAt(), TAG)) {
                return FORGED;
            }
            schedule.veil(a.row, a.at, which, a.sealedMany());
            a.takeType();
            // By whatever EPOCH: that DATA is not by EPOCH 3 is told of a record that CAME alone.
            return a.type == DATA && !isOpen() ? EARLY : CAME;
        }

        /** Hears what is in a record that CAME; answers what is due by it. */
        int hear(Arrival a) {
            boolean sound;
            int due = DUE_NOTHING;
            switch (a.type) {
                case HANDSHAKE:
                    sound = a.readFragment() && isSound(a) && (!isToKeep(a) || agreesWithKept(a));
                    due = sound ? hearFragment(a) : DUE_NOTHING;
                    break;
                case ALERT:
                    sound = hearAlert(a);
                    break;
                case ACK:
                    sound = hearAck(a);
                    break;
                case DATA:
                    sound = hearData(a);
                    break;
                default:
                    sound = false;
                    break;
            }
            if (!sound) {
                counts[MALFORMED]++;
            }
            return due;
        }

        boolean hearAlert(Arrival a) {
            if (a.contentMany != 1) {
                return false;
            }
            if (a.epoch == 0 && schedule.epoch > 0) {
                return true;
            }
            int code = a.contentOctet(0);
            if (code == NO_ALERT) {
                heardClose = 1;
            } else {
                noteAlert(code);
                die();
            }
            return true;
        }

        void noteAlert(int code) {
            if (alert == NONE && code != NO_ALERT) {
                alert = code;
            }
        }

        boolean hearAck(Arrival a) {
            if (a.contentMany % 3 != 0) {
                return false;
            }
            for (int i = 0; i < a.contentMany; i += 3) {
                int epoch = a.contentOctet(i);
                if (epoch <= a.epoch) {
                    flight.ackRecord(epoch, a.contentOctet(i + 1) << 8 | a.contentOctet(i + 2));
                }
            }
            if (flight.running && flight.notAcked() == 0) {
                flight.running = false;
            }
            return true;
        }

        boolean hearData(Arrival a) {
            if (a.epoch != 3 || a.contentMany < 1 || a.contentMany > MOST_WRITTEN) {
                return false;
            }
            for (int i = 0; i < a.contentMany; i++) {
                body[i] = a.contentOctet(i);
            }
            if (writings.many == MOST_WRITINGS) {
                writings.drop(0);
            }
            writings.add(body, a.contentMany);
            delivered++;
            // The server's FLIGHT is OVER already when DATA can come; the client's is by this.
            flight.running = false;
            return true;
        }

        /** Whether the other side sends such a FRAGMENT by this EPOCH. */
        boolean isSound(Arrival a) {
            boolean sent;
            switch (a.kind) {
                case HELLO:
                    sent = index == SERVER && a.count == a.length && a.messageNumber <= 1
                            && (a.length == SHORT_HELLO || a.length == SHORT_HELLO + COOKIE_OCTETS);
                    break;
                case RETRY:
                    sent = index == CLIENT && a.length == COOKIE_OCTETS;
                    break;
                case ANSWER:
                    sent = index == CLIENT && a.length == ANSWER_OCTETS;
                    break;
                case SETTINGS:
                    sent = index == CLIENT && a.length >= 2 && a.length <= MOST_BODY;
                    break;
                case FINISHED:
                    sent = a.length == HASH_OCTETS;
                    break;
                default:
                    sent = false;
                    break;
            }
            return sent && a.epoch == epochOfKind(a.kind);
        }

        boolean isToKeep(Arrival a) {
            return phase == WAITING && a.messageNumber >= next && a.messageNumber < next + MOST_KEPT;
        }

        boolean agreesWithKept(Arrival a) {
            return kept.agrees(a.messageNumber, a.kind, a.length);
        }

        /** A FRAGMENT that is not MALFORMED: it is listed, and kept, or something is due by it. */
        int hearFragment(Arrival a) {
            if (phase == RESTING) {
                return index == SERVER ? DUE_HELLO : DUE_NOTHING;
            }
            list.add(a.epoch, a.number, now);
            if (isToKeep(a)) {
                kept.keep(a);
            }
            if (a.messageNumber >= next) {
                return DUE_NOTHING;
            }
            if (index == SERVER && isOpen()) {
                return DUE_ACKS;
            }
            boolean awaitsNothing = index == SERVER ? a.kind == HELLO : isOpen();
            boolean may = flight.running && flight.again < MOST_AGAIN && now > flight.sentAt;
            return awaitsNothing && may ? DUE_AGAIN : DUE_NOTHING;
        }

        void act(int due, Arrival a) {
            if (due == DUE_ACKS) {
                sendAcks();
            } else if (due == DUE_AGAIN) {
                countAgain();
                sendFlight();
            } else if (due == DUE_HELLO) {
                int verdict = judgeHello(a);
                if (verdict == WANTS_COOKIE) {
                    sendRetry(a);
                } else if (verdict != NO_ALERT) {
                    sendAlert(verdict);
                } else {
                    composeAnswer(a);
                    startFlight();
                    sendFlight();
                }
            }
        }

        /** The ALERT that a HELLO raises, or WANTS_COOKIE; NO_ALERT for one that is to be answered. */
        int judgeHello(Arrival a) {
            int cookieMany = a.row[a.bodyAt + RANDOM_OCTETS];
            if (cookieMany != a.length - SHORT_HELLO) {
                return NOT_AWAITED;
            }
            if (traits.wantsCookies) {
                cookieInto(a, proof);
                int cookieAt = a.bodyAt + RANDOM_OCTETS + 1;
                if (cookieMany == 0 || !sameOctets(proof, 0, a.row, cookieAt, COOKIE_OCTETS)) {
                    return WANTS_COOKIE;
                }
            }
            int binderAt = a.bodyAt + a.length - HASH_OCTETS;
            if (!sameOctets(traits.ownName, 0, a.row, binderAt - 8, 8)) {
                return OTHER_NAME;
            }
            schedule.startWithHello(a.row, a.bodyAt, a.length);
            schedule.binderInto(traits.sharedKey, proof);
            return sameOctets(proof, 0, a.row, binderAt, HASH_OCTETS) ? NO_ALERT : NOT_RIGHT;
        }

        void cookieInto(Arrival a, int[] out) {
            Sha sha = schedule.sha;
            sha.clear();
            sha.putAll(a.row, a.bodyAt, RANDOM_OCTETS);
            sha.macInto(traits.seed, out);
        }

        /** Behind judging: the COOKIE stands in the proof. */
        void sendRetry(Arrival a) {
            putFragmentHead(RETRY, COOKIE_OCTETS, a.messageNumber, 0, COOKIE_OCTETS);
            System.arraycopy(proof, 0, sender.content, FRAGMENT_HEAD, COOKIE_OCTETS);
            sender.putRecord(0, HANDSHAKE, FRAGMENT_HEAD + COOKIE_OCTETS);
            sender.flush();
        }

        /** Behind judging: the transcript starts with that HELLO. */
        void composeAnswer(Arrival a) {
            long otherShare = wordAt(a.row, a.bodyAt + a.length - HASH_OCTETS - 12);
            traits.drawRandom(schedule.sha, index, proof);
            if (otherShare != 0 && traits.wantsShare) {
                traits.drawShare(schedule.sha, index, proof);
            }
            int both = traits.share == 0 ? 0 : (int) power(otherShare, traits.ownNumber);
            flight.startAnew();
            System.arraycopy(traits.random, 0, body, 0, RANDOM_OCTETS);
            putWord(traits.share, body, RANDOM_OCTETS);
            addToFlight(ANSWER, a.messageNumber, ANSWER_OCTETS);
            schedule.enterHandshake(traits.sharedKey, both);
            body[0] = traits.mtu >>> 8;
            body[1] = traits.mtu & 255;
            System.arraycopy(traits.greeting, 0, body, 2, traits.greetingMany);
            addToFlight(SETTINGS, a.messageNumber + 1, 2 + traits.greetingMany);
            schedule.finishedInto(SERVER, body);
            addToFlight(FINISHED, a.messageNumber + 2, HASH_OCTETS);
            schedule.enterData();
            next = a.messageNumber + 1;
            phase = WAITING;
        }

        void addToFlight(int kind, int number, int length) {
            flight.addMessage(kind, number, body, length);
            schedule.addMessage(kind, body, 0, length);
        }

        void drawHello() {
            traits.drawRandom(schedule.sha, index, proof);
            if (traits.wantsShare) {
                traits.drawShare(schedule.sha, index, proof);
            }
            phase = WAITING;
        }

        void composeHello(int number) {
            int cookieMany = traits.cookieMany;
            int length = SHORT_HELLO + cookieMany;
            System.arraycopy(traits.random, 0, body, 0, RANDOM_OCTETS);
            body[RANDOM_OCTETS] = cookieMany;
            System.arraycopy(traits.cookie, 0, body, RANDOM_OCTETS + 1, cookieMany);
            putWord(traits.share, body, RANDOM_OCTETS + 1 + cookieMany);
            System.arraycopy(traits.ownName, 0, body, RANDOM_OCTETS + 5 + cookieMany, 8);
            schedule.startWithHello(body, 0, length);
            schedule.binderInto(traits.sharedKey, proof);
            schedule.setBinder(proof);
            System.arraycopy(proof, 0, body, length - HASH_OCTETS, HASH_OCTETS);
            flight.startAnew();
            flight.addMessage(HELLO, number, body, length);
            traits.helloNumber = number;
        }

        boolean hasNext() {
            return phase == WAITING && kept.isWhole(next);
        }

        /** Takes the MESSAGE that is next and whole. */
        void takeNext() {
            int slot = next % MOST_KEPT;
            int kind = kept.kinds[slot];
            int[] taken = kept.bodies[slot];
            int length = kept.lengths[slot];
            kept.free(next);
            next++;
            int raised = NO_ALERT;
            if (kind == RETRY && awaited == ANSWER && traits.cookieMany == 0) {
                takeRetry(taken);
                composeHello(traits.helloNumber + 1);
                startFlight();
                sendFlight();
            } else if (kind != awaited) {
                raised = NOT_AWAITED;
            } else if (kind == ANSWER) {
                raised = takeAnswer(taken);
            } else if (kind == SETTINGS) {
                schedule.addMessage(SETTINGS, taken, 0, length);
                awaited = FINISHED;
            } else {
                raised = takeFinished(taken);
            }
            if (raised != NO_ALERT) {
                sendAlert(raised);
                die();
            } else if (phase == OPEN && index == CLIENT) {
                startFlight();
                sendFlight();
            } else if (phase == OPEN) {
                sendAcks();
            }
        }

        void takeRetry(int[] cookie) {
            System.arraycopy(cookie, 0, traits.cookie, 0, COOKIE_OCTETS);
            traits.cookieMany = COOKIE_OCTETS;
        }

        int takeAnswer(int[] answer) {
            long otherShare = wordAt(answer, RANDOM_OCTETS);
            flight.running = false;
            if (otherShare != 0 && !traits.wantsShare) {
                return SHARE_UNWANTED;
            }
            int both = otherShare == 0 ? 0 : (int) power(otherShare, traits.ownNumber);
            schedule.addMessage(ANSWER, answer, 0, ANSWER_OCTETS);
            schedule.enterHandshake(traits.sharedKey, both);
            awaited = SETTINGS;
            return NO_ALERT;
        }

        int takeFinished(int[] finished) {
            schedule.finishedInto(1 - index, proof);
            if (!sameOctets(proof, 0, finished, 0, HASH_OCTETS)) {
                return NOT_RIGHT;
            }
            if (index == CLIENT) {
                schedule.addMessage(FINISHED, finished, 0, HASH_OCTETS);
                schedule.enterData();
                schedule.finishedInto(CLIENT, body);
                flight.startAnew();
                flight.addMessage(FINISHED, traits.helloNumber + 1, body, HASH_OCTETS);
            } else {
                flight.running = false;
            }
            phase = OPEN;
            return NO_ALERT;
        }

        /** What a FLIGHT that is sent first begins with; LIST begins anew with it. */
        void startFlight() {
            list.startAnew();
            flight.sentFirst(now);
        }

        void sendFlight() {
            int at = 0;
            int end = flight.end();
            // Each step goes on by an octet at least, or sends a datagram that has some.
            for (int step = 0; step < 2 * MOST_FLIGHT && at < end; step++) {
                int m = flight.messageAt(at);
                int epoch = epochOfKind(flight.kinds[m]);
                int count = flight.openRun(at, m, sender.roomFor(epoch) - FRAGMENT_HEAD);
                if (count > 0) {
                    putFragment(m, at, count);
                    int number = sender.putRecord(epoch, HANDSHAKE, FRAGMENT_HEAD + count);
                    flight.log(epoch, number, at, at + count);
                    at += count;
                } else if (flight.acked[at] != 0) {
                    at++;
                } else {
                    sender.flush();
                }
            }
            sender.flush();
            flight.sentAt = now;
        }

        void putFragment(int m, int at, int count) {
            int start = flight.starts[m];
            int length = flight.starts[m + 1] - start;
            putFragmentHead(flight.kinds[m], length, flight.numbers[m], at - start, count);
            System.arraycopy(flight.bodies, at, sender.content, FRAGMENT_HEAD, count);
        }

        void putFragmentHead(int kind, int length, int number, int from, int count) {
            int[] content = sender.content;
            content[0] = kind;
            content[1] = length >>> 8;
            content[2] = length & 255;
            content[3] = number;
            content[4] = from >>> 8;
            content[5] = from & 255;
            content[6] = count >>> 8;
            content[7] = count & 255;
        }

        void sendAcks() {
            if (list.many > 0) {
                int length = list.putInto(sender.content);
                sender.putRecord(schedule.epoch, ACK, length);
                sender.flush();
            }
        }

        void sendAlert(int code) {
            noteAlert(code);
            sender.content[0] = code;
            sender.putRecord(schedule.epoch, ALERT, 1);
            sender.flush();
        }

        /** The number of the record, or NONE. */
        int sendData(int[] octets, int many) {
            if (many < 1 || many > MOST_WRITTEN || many > octets.length) {
                return NONE;
            }
            System.arraycopy(octets, 0, sender.content, 0, many);
            int number = sender.putRecord(3, DATA, many);
            sender.flush();
            return number;
        }
    }
}
