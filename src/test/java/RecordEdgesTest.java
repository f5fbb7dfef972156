import java.util.Arrays;

/**
 * Parts 1 and 2 of the document's terms, WHAT IT IS MADE OF and RECORDS: the sentences that name an edge, each with
 * the calls that bring it about; the sentence stands above its test.
 */
public final class RecordEdgesTest {
    private static final int MALFORMED = 0;
    private static final int EARLY = 1;
    private static final int STALE = 2;
    private static final int FORGED = 3;
    private static final int CAME = 4;
    private static final long PRIME = 2147483647L;
    private static final Check CHECK = new Check("RecordEdgesTest");

    private RecordEdgesTest() {
    }

    public static void main(String[] args) {
        hashedToWholeBlocks();
        sealedBeyondOneMac();
        sharesModulo();
        chanceGoesOn();
        numbersFromZero();
        noneBehindTheLastNumber();
        firstOctets();
        secondOctet();
        notThereAsAWhole();
        upToItsEnd();
        malformedEndsIt();
        noKeys();
        lessThanNine();
        cameAlready();
        sixtyFourBelow();
        ofEachEpoch();
        noWrapAround();
        tagNotRight();
        nothingElseIsDone();
        sealedTypes();
        dataOneToSixty();
        alertOfOne();
        ackWholeEntries();
        alertOfEpochZero();
        ackTellsBelow();
        CHECK.end();
    }

    private static void due(String what, long got, long want) {
        CHECK.due(what, got, want);
    }

    private static byte[] ack(int number) {
        return Octets.openRecord(26, number, new byte[0]);
    }

    private static int[] counts(LossyPair x, int side) {
        int[] row = new int[5];
        for (int what = 0; what < 5; what++) {
            row[what] = x.told(side, what);
        }
        return row;
    }

    /** Lets a datagram of one record come, which is to be counted as just this, once. */
    private static void counted(String what, LossyPair x, int side, byte[] record, int as) {
        int[] want = counts(x, side);
        want[as]++;
        due(what + " CAME", Pairs.hit(x, side, record), as == CAME ? 1 : 0);
        CHECK.same(what, counts(x, side), want);
    }

    /** As counted(), of a record that CAME, with content that is MALFORMED or not. */
    private static void content(String what, LossyPair x, int side, byte[] record, boolean sound) {
        int[] want = counts(x, side);
        want[CAME]++;
        want[MALFORMED] += sound ? 0 : 1;
        due(what + " CAME", Pairs.hit(x, side, record), 1);
        CHECK.same(what, counts(x, side), want);
    }

    /** "x, an octet 128, 0s till 8 octets lack to whole blocks of 64": TAGS of all lengths, at each place in a block. */
    private static void hashedToWholeBlocks() {
        for (int many = 1; many <= 60; many++) {
            LossyPair x = Pairs.open();
            byte[] text = Octets.part(Octets.join(Octets.hash(Octets.of(many)), Octets.hash(Octets.of(1))), 0, many);
            Pairs.draft(x, text);
            x.write(0);
            CHECK.same("1 SEAL of " + many, Pairs.datagram(x, 1, 0),
                    Octets.sealedRecord(Pairs.secret(x, 0, 2), 3, 0, 23, text));
        }
    }

    /** "for i = 0, 1, .. one behind the other": 1 to 6 MACS of 32 octets, the most in one record of SETTINGS. */
    private static void sealedBeyondOneMac() {
        for (int many : new int[] {0, 20, 21, 22, 52, 53, 54, 84, 85, 86, 149, 150}) {
            LossyPair x = Scenes.greeted(6, 500, many);
            x.begin();
            x.deliver(1, 0);
            byte[] settings = Octets.join(Octets.u2(500), new byte[many]);
            byte[] want = Octets.sealedRecord(Pairs.secret(x, 1, 1), 2, 0, 22,
                    Octets.fragment(8, settings.length, 1, 0, settings));
            CHECK.same("1 SETTINGS with " + many, Octets.part(Pairs.datagram(x, 0, 0), 34, 34 + want.length), want);
            x.deliver(0, 0);
            due("1 the client opens it", x.state(0), 2);
        }
        LossyPair x = Pairs.open();
        byte[] entries = new byte[486];
        content("1 the longest that a datagram can have", x, 1, Pairs.sealed(x, 1, 3, 9, 26, entries), true);
    }

    private static byte[] handBy(long both) {
        byte[] early = Octets.mac(new byte[32], Octets.u8(1), Octets.u8(2));
        return Octets.mac(Octets.expand(early, "derived"), Octets.u4(both));
    }

    /** "the other SHARE to the power of the own number, modulo 2147483647": SHARES round the modulus and at u4's ends. */
    private static void sharesModulo() {
        long[] shares = {1, 2, PRIME - 1, PRIME, PRIME + 1, 2 * PRIME - 1, 2 * PRIME, 2 * PRIME + 1, 0x80000000L};
        for (long share : shares) {
            LossyPair x = Pairs.begun(2, 500);
            long own = Octets.u4At(Octets.mac(Octets.u8(5), Octets.of(0, 0, 1)), 0) % 2147483646L + 1;
            Pairs.hit(x, 0, Octets.openRecord(22, 9, Octets.fragment(2, 20, 0, 0, Octets.join(new byte[16], Octets.u4(share)))));
            CHECK.same("1 HAND by " + share, Pairs.secret(x, 0, 4), handBy(Model.ModelSide.power(share, own)));
        }
        LossyPair none = Pairs.begun(2, 500);
        Pairs.hit(none, 0, Octets.openRecord(22, 9, Octets.fragment(2, 20, 0, 0, new byte[20])));
        CHECK.same("3 BOTH is 0 when ANSWER's SHARE is 0", Pairs.secret(none, 0, 4), handBy(0));
    }

    /** "a number its first 4 as a u4, modulo 2147483646, and 1 more": SEEDS whose u4 is below and above the modulus. */
    private static void chanceGoesOn() {
        int above = 0;
        int below = 0;
        for (long seed = 0; seed < 12; seed++) {
            LossyPair x = new LossyPair();
            x.make(6, 500);
            x.name(0, 0, seed);
            x.name(1, 0, seed);
            x.begin();
            long[] shares = new long[2];
            for (int side = 0; side < 2; side++) {
                long u4 = Octets.u4At(Octets.mac(Octets.u8(seed), Octets.of(side, 0, 1)), 0);
                above += u4 >= 2147483646L ? 1 : 0;
                below += u4 < 2147483646L ? 1 : 0;
                shares[side] = Model.ModelSide.power(7, u4 % 2147483646L + 1);
            }
            due("1 the client's SHARE", Octets.u4At(Pairs.datagram(x, 1, 0), 31), shares[0]);
            x.deliver(1, 0);
            due("1 the server's SHARE", Octets.u4At(Pairs.datagram(x, 0, 0), 30), shares[1]);
            x.deliver(0, 0);
            CHECK.same("1 BOTH is one", Pairs.secret(x, 0, 4), Pairs.secret(x, 1, 4));
        }
        CHECK.yes("1 both kinds were there", above > 0 && below > 0);
    }

    /** "Each side numbers its records of each EPOCH from 0 on" */
    private static void numbersFromZero() {
        LossyPair x = Pairs.begun(1, 500);
        x.twice(1, 0);
        due("2 the client's first of EPOCH 0", Octets.u2At(Pairs.datagram(x, 1, 0), 2), 0);
        x.deliver(1, 0);
        due("2 the server's first of EPOCH 0", Octets.u2At(Pairs.datagram(x, 0, 0), 2), 0);
        x.deliver(0, 0);
        due("2 the client's second", Octets.u2At(Pairs.datagram(x, 1, 1), 2), 1);
        x.deliver(1, 1);
        byte[] flight = Pairs.datagram(x, 0, 0);
        due("2 the server's second", Octets.u2At(flight, 2), 1);
        for (int n = 0; n < 2; n++) {
            int at = n == 0 ? 34 : 34 + 24;
            byte[] tag = n == 0 ? Octets.part(flight, at + 16, at + 24) : Octets.part(flight, at + 46, at + 54);
            due("2 the server's of EPOCH 2", Octets.u2At(flight, at + 1) ^ Octets.mask(Pairs.secret(x, 1, 1), tag), n);
        }
        x.run(2);
        for (int side = 0; side < 2; side++) {
            x.draft(1, 1);
            due("2 of EPOCH 3; the server's ACK went ahead", x.write(side), side);
        }
    }

    /** "behind 65535 none is sent": more calls than are promised, for the numbers do not end before. */
    private static void noneBehindTheLastNumber() {
        LossyPair x = Pairs.open();
        for (int n = 1; n <= 65535; n++) {
            x.draft(1, n);
            if (x.write(1) != n) {
                due("8 the number", -1, n);
            }
            if (n == 255 || n == 256 || n == 257 || n == 65535) {
                CHECK.same("2 the record " + n, Pairs.datagram(x, 0, 0),
                        Octets.sealedRecord(Pairs.secret(x, 1, 3), 3, n, 23, Octets.of(n)));
            }
            x.lose(0, 0);
        }
        int sent = x.told(1, 5);
        byte[] finished = Octets.fragment(20, 32, 1, 0, new byte[1]);
        due("2 a FRAGMENT that was taken", Pairs.hit(x, 1, Pairs.sealed(x, 1, 2, 9, 22, finished)), 1);
        due("4 it can't be ACKED", x.net(0), 0);
        due("24 nothing was sent", x.told(1, 5), sent);
        x.draft(1, 1);
        due("8 NONE", x.write(1), -1);
        due("5 THE DRAFT stays", x.draft(1, 1), 2);
        due("8 the client's numbers go on", x.write(0), 0);
        x.close(1);
        due("9 CLOSED", x.state(1), 3);
        due("9 without an ALERT", x.net(0) + x.told(1, 5) - sent, 0);
        x.deliver(1, 0);
        due("21 it hears yet", x.got(1), 1);
    }

    /** "MALFORMED ends it: the first octet is none of 21, 22, 26, 34, 35" */
    private static void firstOctets() {
        for (int first = 0; first < 256; first++) {
            LossyPair x = Pairs.ready(0, 500);
            byte[] record = Octets.join(Octets.of(first, 0, 0, 0, 0, 0), ack(7));
            boolean open = first == 21 || first == 22 || first == 26;
            int[] want = new int[5];
            if (open) {
                // A FRAGMENT or ALERT without an octet is MALFORMED in itself; the record behind it comes.
                want[CAME] = 2;
                want[MALFORMED] = first == 26 ? 0 : 1;
            } else if (first == 34 || first == 35) {
                // The head has 5 octets: the sixth is taken for the first of a record.
                want[EARLY] = 1;
                want[MALFORMED] = 1;
            } else {
                want[MALFORMED] = 1;
            }
            due("2 first octet " + first, Pairs.hit(x, 1, record), want[CAME]);
            CHECK.same("2 first octet " + first, counts(x, 1), want);
        }
    }

    /** "of EPOCH 0 the second one is not 0" */
    private static void secondOctet() {
        for (int type : new int[] {21, 22, 26}) {
            for (int second = 1; second < 256; second++) {
                LossyPair x = Pairs.ready(0, 500);
                counted("2 second octet " + second, x, 0, Octets.of(type, second, 0, 0, 0, 0), MALFORMED);
            }
        }
        LossyPair x = Pairs.ready(0, 500);
        counted("2 0 as the second octet", x, 0, ack(0), CAME);
        counted("2 of a sealed one it is of the number", x, 0, Octets.of(35, 255, 0, 0, 0), EARLY);
    }

    /** "it is not there as a whole" */
    private static void notThereAsAWhole() {
        LossyPair open = Pairs.open();
        byte[][] records = {ack(50), Octets.openRecord(26, 50, new byte[3]), Octets.openRecord(21, 50, new byte[1]),
            Pairs.sealed(open, 1, 2, 50, 26), Pairs.sealed(open, 1, 3, 50, 23, new byte[60])};
        for (byte[] record : records) {
            for (int many = 1; many < record.length; many++) {
                counted("2 " + many + " of " + record.length, Pairs.open(), 1, Octets.part(record, 0, many), MALFORMED);
            }
            counted("2 all " + record.length, Pairs.open(), 1, record, CAME);
        }
        byte[] longest = Octets.join(Octets.of(26, 0, 0, 0, 255, 255), new byte[494]);
        counted("2 65535 octets are not there", Pairs.open(), 1, longest, MALFORMED);
        counted("2 492 are: 164 entries", Pairs.open(), 1, Octets.openRecord(26, 99, new byte[492]), CAME);
    }

    /** "One that comes is gone through, record by record, up to its end." */
    private static void upToItsEnd() {
        LossyPair x = Pairs.ready(0, 500);
        byte[][] records = new byte[83][];
        for (int n = 0; n < 83; n++) {
            records[n] = ack(n);
        }
        due("2 83 of 6 octets", Pairs.hit(x, 0, records), 83);
        due("2 nothing is left over", x.told(0, MALFORMED), 0);
        for (int n = 0; n < 83; n++) {
            records[n] = ack(100 + n);
        }
        due("2 and 2 octets more", Pairs.hit(x, 0, Octets.join(records), Octets.of(26, 0)), 83);
        due("2 which are not there as a whole", x.told(0, MALFORMED), 1);
        byte[] sealed = new byte[500];
        for (int at = 0; at < 500; at += 5) {
            sealed[at] = 34;
        }
        due("2 100 of 5 octets", Pairs.hit(x, 0, sealed), 0);
        due("2 all EARLY", x.told(0, EARLY), 100);
        due("2 and no more", x.told(0, MALFORMED), 1);
    }

    /** "MALFORMED ends it": what stands ahead came, what stands behind did not. */
    private static void malformedEndsIt() {
        byte[][] wrong = {Octets.of(0), Octets.of(26, 1, 0, 9, 0, 0), Octets.of(26, 0, 0, 9, 0, 255)};
        for (byte[] w : wrong) {
            LossyPair x = Pairs.ready(0, 500);
            due("2 those ahead", Pairs.hit(x, 1, ack(3), ack(2), w, ack(1)), 2);
            due("2 MALFORMED once", x.told(1, MALFORMED), 1);
            due("2 those behind may come yet", Pairs.hit(x, 1, ack(1)), 1);
        }
        LossyPair x = Pairs.ready(0, 500);
        due("2 MALFORMED in itself does not end it", Pairs.hit(x, 1, Octets.openRecord(21, 5, new byte[2]), ack(6)), 2);
    }

    /** "Of a sealed record then: EARLY: its EPOCH has no KEYS here" */
    private static void noKeys() {
        int[][] epochs = {{0, 0}, {0, 0}, {0, 0}, {0, 3}, {2, 3}, {3, 3}};
        for (int scene = 0; scene < epochs.length; scene++) {
            for (int side = 0; side < 2; side++) {
                for (int epoch = 2; epoch <= 3; epoch++) {
                    byte[] wrong = Octets.join(Octets.of(32 + epoch, 0, 0, 0, 9), new byte[9]);
                    int as = epoch <= epochs[scene][side] ? FORGED : EARLY;
                    counted("2 EPOCH " + epoch + ", side " + side + ", " + Scenes.NAMES[scene], Scenes.make(scene), side, wrong, as);
                }
            }
        }
    }

    /** "else FORGED: less than 9 octets are sealed." */
    private static void lessThanNine() {
        for (int epoch = 2; epoch <= 3; epoch++) {
            for (int many = 0; many <= 9; many++) {
                byte[] record = Octets.join(Octets.of(32 + epoch, 0, 0, 0, many), new byte[many]);
                counted("2 " + many + " octets, no KEYS", Pairs.ready(0, 500), 1, record, EARLY);
                counted("2 " + many + " octets", Pairs.open(), 1, record, FORGED);
            }
            LossyPair x = Pairs.open();
            byte[] least = Pairs.sealed(x, 1, epoch, 40, 26);
            due("2 9 octets are sealed", least.length, 14);
            counted("2 with a right TAG it comes", x, 1, least, CAME);
        }
        // Such a record has no TAG, so no number: the next one is heard, and no window is moved.
        LossyPair x = Pairs.open();
        byte[] data = Pairs.sealed(x, 1, 3, 0, 23, Octets.of(5));
        due("2 the datagram goes on", Pairs.hit(x, 1, Octets.of(35, 0, 0, 0, 0), data), 1);
        due("21 delivered", x.got(1), 1);
    }

    private static byte[] recordOf(LossyPair x, int side, int epoch, int number) {
        return epoch == 0 ? ack(number) : Pairs.sealed(x, side, epoch, number, 26);
    }

    /** "STALE: its number came already in this EPOCH" */
    private static void cameAlready() {
        for (int epoch : new int[] {0, 2, 3}) {
            for (int side = 0; side < 2; side++) {
                LossyPair x = Pairs.open();
                for (int number : new int[] {100, 163, 164, 101, 165}) {
                    byte[] record = recordOf(x, side, epoch, number);
                    counted("2 " + number, x, side, record, CAME);
                    counted("2 " + number + " again", x, side, record, STALE);
                }
                counted("2 one that is not the greatest", x, side, recordOf(x, side, epoch, 163), STALE);
                counted("2 one that did not come", x, side, recordOf(x, side, epoch, 162), CAME);
                byte[] twice = recordOf(x, side, epoch, 170);
                due("2 twice in one datagram", Pairs.hit(x, side, twice, twice), 1);
            }
        }
    }

    /** "or is 64 or more below the greatest that came" */
    private static void sixtyFourBelow() {
        for (int epoch : new int[] {0, 2, 3}) {
            for (int side = 0; side < 2; side++) {
                LossyPair x = Pairs.open();
                counted("2 the greatest", x, side, recordOf(x, side, epoch, 1000), CAME);
                counted("2 64 below", x, side, recordOf(x, side, epoch, 936), STALE);
                counted("2 65 below", x, side, recordOf(x, side, epoch, 935), STALE);
                counted("2 far below", x, side, recordOf(x, side, epoch, 200), STALE);
                counted("2 63 below", x, side, recordOf(x, side, epoch, 937), CAME);
                counted("2 62 below", x, side, recordOf(x, side, epoch, 938), CAME);
                counted("2 the greatest is 1 above", x, side, recordOf(x, side, epoch, 1001), CAME);
                counted("2 63 below came already", x, side, recordOf(x, side, epoch, 938), STALE);
                counted("2 62 below", x, side, recordOf(x, side, epoch, 939), CAME);
                counted("2 64 above", x, side, recordOf(x, side, epoch, 1065), CAME);
                counted("2 64 below", x, side, recordOf(x, side, epoch, 1001), STALE);
                counted("2 63 below, which did not come", x, side, recordOf(x, side, epoch, 1002), CAME);
                counted("2 63 above", x, side, recordOf(x, side, epoch, 1128), CAME);
                counted("2 63 below came", x, side, recordOf(x, side, epoch, 1065), STALE);
                counted("2 62 below", x, side, recordOf(x, side, epoch, 1066), CAME);
                counted("2 128 above", x, side, recordOf(x, side, epoch, 1256), CAME);
                counted("2 63 below", x, side, recordOf(x, side, epoch, 1193), CAME);
            }
        }
    }

    /** "in this EPOCH": what came by one moves the window of no other. */
    private static void ofEachEpoch() {
        LossyPair x = Pairs.open();
        for (int epoch : new int[] {3, 2, 0}) {
            counted("2 far above", x, 1, recordOf(x, 1, epoch, 5000 * (epoch + 1)), CAME);
            for (int other : new int[] {0, 2, 3}) {
                int number = other >= epoch ? 5000 * (other + 1) - 10 - epoch : 20 + epoch;
                counted("2 EPOCH " + other, x, 1, recordOf(x, 1, other, number), CAME);
            }
        }
    }

    /** The numbers' ends: 0 is far below 65535, not behind it. */
    private static void noWrapAround() {
        for (int epoch : new int[] {0, 2, 3}) {
            LossyPair x = Pairs.open();
            counted("2 63", x, 0, recordOf(x, 0, epoch, 63), CAME);
            counted("2 65535, the greatest there is", x, 0, recordOf(x, 0, epoch, 65535), CAME);
            counted("2 65535 again", x, 0, recordOf(x, 0, epoch, 65535), STALE);
            counted("2 0", x, 0, recordOf(x, 0, epoch, 0), STALE);
            counted("2 1", x, 0, recordOf(x, 0, epoch, 1), STALE);
            counted("2 65471 is 64 below", x, 0, recordOf(x, 0, epoch, 65471), STALE);
            counted("2 65472 is 63 below", x, 0, recordOf(x, 0, epoch, 65472), CAME);
            counted("2 32767", x, 0, recordOf(x, 0, epoch, 32767), STALE);
        }
        LossyPair fresh = Pairs.ready(0, 500);
        counted("2 0 at first", fresh, 0, ack(0), CAME);
        counted("2 0 again", fresh, 0, ack(0), STALE);
        LossyPair low = Pairs.ready(0, 500);
        counted("2 63 at first", low, 0, ack(63), CAME);
        counted("2 0 is 63 below", low, 0, ack(0), CAME);
    }

    /** "Of a sealed one then: FORGED: its TAG is not right." */
    private static void tagNotRight() {
        LossyPair x = Pairs.open();
        byte[] right = Pairs.sealed(x, 1, 3, 7, 23, Octets.of(1, 2));
        for (int k = right.length - 11; k < right.length - 8; k++) {
            byte[] wrong = right.clone();
            wrong[k] ^= 1;
            counted("2 octet " + k, x, 1, wrong, FORGED);
        }
        byte[] key = Octets.expand(Pairs.secret(x, 1, 2), "key");
        byte[] sealed = Octets.veil(key, 3, 7, Octets.of(1, 2, 23));
        byte[] tag = Octets.tag(key, 3, 7, Octets.head(3, 7, 11), sealed);
        for (int bit = 0; bit < 64; bit++) {
            byte[] wrong = tag.clone();
            wrong[bit / 8] ^= (byte) (1 << bit % 8);
            int number = 7 ^ Octets.mask(Pairs.secret(x, 1, 2), wrong);
            counted("2 bit " + bit + " of TAG", x, 1, Octets.join(Octets.head(3, number, 11), sealed, wrong), FORGED);
        }
        counted("2 the right one", x, 1, right, CAME);
        due("21 delivered once", x.got(1), 1);
    }

    /** "Each of these is counted, and nothing else is done with that record." */
    private static void nothingElseIsDone() {
        for (int scene : new int[] {3, 4, 5, 6, 8}) {
            for (int side = 0; side < 2; side++) {
                LossyPair x = Scenes.make(scene);
                byte[][] records = {Octets.of(22, 9), Octets.of(35, 1, 2, 0, 9, 1, 1, 1, 1, 1, 1, 1, 1, 1),
                    Octets.of(34, 1, 2, 0, 8, 1, 1, 1, 1, 1, 1, 1, 1)};
                int[] before = Snapshot.of(x);
                for (byte[] record : records) {
                    due("2 it does not come", Pairs.hit(x, side, record), 0);
                }
                int[] behind = Snapshot.of(x);
                int differ = 0;
                for (int i = 0; i < Math.min(before.length, behind.length); i++) {
                    differ += before[i] != behind[i] ? 1 : 0;
                }
                due("2 all else is as before", behind.length, before.length);
                CHECK.yes("2 it is counted", differ >= 2 && differ <= 3);
            }
        }
    }

    /** "or when a sealed type is none of 21, 22, 23, 26" */
    private static void sealedTypes() {
        for (int epoch = 2; epoch <= 3; epoch++) {
            for (int type = 0; type < 256; type++) {
                LossyPair x = Pairs.open();
                boolean sound = type == 21 || type == 26 || type == 23 && epoch == 3;
                byte[] octets = type == 26 ? new byte[3] : new byte[1];
                byte[] record = Octets.sealedRecord(Pairs.secret(x, 1, 2 * epoch - 4), epoch, 40, type, octets);
                content("2 EPOCH " + epoch + " type " + type, x, 1, record, sound);
                due("20 state", x.state(1), 2);
                due("21 delivered", x.got(1), sound && type == 23 ? 1 : 0);
            }
        }
    }

    /** "or DATA is not by EPOCH 3 or has not 1 to 60 octets" */
    private static void dataOneToSixty() {
        for (int side = 0; side < 2; side++) {
            for (int many : new int[] {0, 1, 2, 59, 60, 61, 62, 127, 128, 255, 256, 486}) {
                LossyPair x = Pairs.open();
                content("2 DATA of " + many, x, side, Pairs.sealed(x, side, 3, 40, 23, new byte[many]), many >= 1 && many <= 60);
                due("21 delivered", x.got(side), many >= 1 && many <= 60 ? 1 : 0);
                content("2 by EPOCH 2", x, side, Pairs.sealed(x, side, 2, 40, 23, new byte[many]), false);
            }
        }
    }

    /** "or ALERT has not just 1 octet" */
    private static void alertOfOne() {
        for (int many : new int[] {0, 1, 2, 3, 255, 256, 257}) {
            byte[] octets = new byte[many];
            Arrays.fill(octets, (byte) 40);
            for (int epoch : new int[] {0, 2, 3}) {
                LossyPair x = epoch == 0 ? Pairs.begun(0, 500) : Pairs.open();
                byte[] record = epoch == 0 ? Octets.openRecord(21, 9, octets) : Pairs.sealed(x, 0, epoch, 9, 21, octets);
                content("2 ALERT of " + many + " by EPOCH " + epoch, x, 0, record, many == 1);
                due("20 DEAD", x.state(0) == 4 ? 1 : 0, many == 1 ? 1 : 0);
                due("24 told", x.told(0, 8), many == 1 ? 40 : -1);
            }
            LossyPair x = Pairs.open();
            content("2 where EPOCH 2 has KEYS, too", x, 0, Octets.openRecord(21, 9, octets), many == 1);
            due("20 OPEN", x.state(0), 2);
        }
    }

    /** "or ACK not whole entries" */
    private static void ackWholeEntries() {
        for (int many = 0; many <= 20; many++) {
            for (int epoch : new int[] {0, 2, 3}) {
                LossyPair x = Scenes.answered();
                byte[] entries = new byte[many];
                for (int i = 0; i + 2 < many; i += 3) {
                    entries[i + 2] = (byte) (i / 3);
                }
                byte[] record = epoch == 0 ? Octets.openRecord(26, 9, entries) : Pairs.sealed(x, 1, epoch, 9, 26, entries);
                content("2 ACK of " + many + " octets", x, 1, record, many % 3 == 0);
                due("24 not ACKED", x.told(1, 12), many > 0 && many % 3 == 0 ? 184 : 204);
            }
        }
    }

    /** "(Of EPOCH 0 an ALERT, CLOSE too, is nothing where EPOCH 2 has KEYS" */
    private static void alertOfEpochZero() {
        boolean[][] keys = {{false, false}, {false, false}, {false, false}, {false, true}, {true, true}, {true, true}};
        for (int scene = 0; scene < keys.length; scene++) {
            for (int side = 0; side < 2; side++) {
                for (int code : new int[] {0, 1, 40, 255}) {
                    LossyPair x = Scenes.make(scene);
                    int before = x.state(side);
                    boolean heard = !keys[scene][side];
                    String what = "2 ALERT " + code + " to side " + side + ", " + Scenes.NAMES[scene];
                    content(what, x, side, Octets.openRecord(21, 60, Octets.of(code)), true);
                    due(what + ": state", x.state(side), heard && code != 0 ? 4 : before);
                    due(what + ": told", x.told(side, 8), heard && code != 0 ? code : -1);
                    due(what + ": CLOSE", x.told(side, 9), heard && code == 0 ? 1 : 0);
                }
            }
        }
    }

    /** "an ACK tells of records of its own EPOCH and those below alone.)" */
    private static void ackTellsBelow() {
        byte[] zero = Octets.of(0, 0, 0);
        byte[] two = Octets.of(2, 0, 0);
        byte[] odd = Octets.of(1, 0, 0, 3, 0, 0, 255, 0, 0, 2, 255, 255, 0, 255, 255);
        int[] epochs = {0, 2, 3};
        for (int epoch : epochs) {
            LossyPair x = Scenes.answered();
            byte[] entries = Octets.join(odd, two, zero);
            byte[] record = epoch == 0 ? Octets.openRecord(26, 9, entries) : Pairs.sealed(x, 1, epoch, 9, 26, entries);
            content("2 ACK by EPOCH " + epoch, x, 1, record, true);
            due("24 not ACKED", x.told(1, 12), epoch == 0 ? 204 - 20 : 204 - 20 - 44);
        }
    }
}
