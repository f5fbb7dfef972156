import java.io.ByteArrayOutputStream;
import java.nio.charset.StandardCharsets;
import java.security.GeneralSecurityException;
import java.security.MessageDigest;
import java.util.Arrays;
import javax.crypto.Mac;
import javax.crypto.spec.SecretKeySpec;

/** HASH, MAC, EXPAND and SEAL by the Java library, to hold the class's own against. */
final class Octets {
    static final int OPEN_HEAD = 6;
    static final int SEALED_HEAD = 5;

    private Octets() {
    }

    static byte[] of(int... values) {
        byte[] row = new byte[values.length];
        for (int i = 0; i < values.length; i++) {
            row[i] = (byte) values[i];
        }
        return row;
    }

    static byte[] u2(int value) {
        return of(value >> 8, value);
    }

    static byte[] u4(long value) {
        return of((int) (value >> 24), (int) (value >> 16), (int) (value >> 8), (int) value);
    }

    static byte[] u8(long value) {
        return join(u4(value >>> 32), u4(value));
    }

    static int u2At(byte[] row, int at) {
        return (row[at] & 255) << 8 | row[at + 1] & 255;
    }

    static long u4At(byte[] row, int at) {
        return (long) u2At(row, at) << 16 | u2At(row, at + 2);
    }

    static byte[] join(byte[]... parts) {
        ByteArrayOutputStream out = new ByteArrayOutputStream();
        for (byte[] part : parts) {
            out.writeBytes(part);
        }
        return out.toByteArray();
    }

    static byte[] part(byte[] row, int from, int end) {
        return Arrays.copyOfRange(row, from, end);
    }

    static byte[] hash(byte[]... parts) {
        try {
            return MessageDigest.getInstance("SHA-256").digest(join(parts));
        } catch (GeneralSecurityException e) {
            throw new AssertionError(e);
        }
    }

    static byte[] mac(byte[] key, byte[]... parts) {
        try {
            Mac mac = Mac.getInstance("HmacSHA256");
            mac.init(new SecretKeySpec(key, "HmacSHA256"));
            return mac.doFinal(join(parts));
        } catch (GeneralSecurityException e) {
            throw new AssertionError(e);
        }
    }

    static byte[] expand(byte[] secret, String label, byte[] data) {
        byte[] text = label.getBytes(StandardCharsets.ISO_8859_1);
        return mac(secret, of(text.length), text, of(data.length), data);
    }

    static byte[] expand(byte[] secret, String label) {
        return expand(secret, label, new byte[0]);
    }

    static byte[] message(int kind, byte[] body) {
        return join(of(kind), u2(body.length), body);
    }

    static byte[] fragment(int kind, int length, int number, int from, byte[] octets) {
        return join(of(kind), u2(length), of(number), u2(from), u2(octets.length), octets);
    }

    static byte[] openRecord(int type, int number, byte[] content) {
        return join(of(type, 0), u2(number), u2(content.length), content);
    }

    static byte[] veil(byte[] key, int epoch, int number, byte[] octets) {
        byte[] out = octets.clone();
        for (int i = 0; i < out.length; i++) {
            out[i] ^= mac(key, of(1, epoch), u2(number), of(i / 32))[i % 32];
        }
        return out;
    }

    static byte[] tag(byte[] key, int epoch, int number, byte[] head, byte[] sealed) {
        return part(mac(key, of(2, epoch), u2(number), head, sealed), 0, 8);
    }

    static byte[] head(int epoch, int number, int length) {
        return join(of(32 + epoch), u2(number), u2(length));
    }

    static int mask(byte[] secret, byte[] tag) {
        return u2At(mac(expand(secret, "sn"), tag), 0);
    }

    /** A record of EPOCH 2 or 3, sealed with the KEYS of a SECRET. */
    static byte[] sealedRecord(byte[] secret, int epoch, int number, int type, byte[] content) {
        byte[] key = expand(secret, "key");
        byte[] sealed = veil(key, epoch, number, join(content, of(type)));
        byte[] tag = tag(key, epoch, number, head(epoch, number, sealed.length + 8), sealed);
        return join(head(epoch, number ^ mask(secret, tag), sealed.length + 8), sealed, tag);
    }
}
