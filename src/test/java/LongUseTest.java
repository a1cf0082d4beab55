import com.sun.management.ThreadMXBean;
import java.lang.management.ManagementFactory;

/**
 * An object is used for 512 calls: the last of them answers as due, and what is made on the way
 * stays small. An object or array takes sixteen bytes at least and an element one, so a million
 * bytes are far below 600,000 objects and 7.3 million elements, and so are the dearest calls.
 */
public final class LongUseTest {
    private static final int CALLS = 512;
    /** At least those that fullAlbum makes. */
    private static final int CALLS_OF_ALBUM = 60;
    private static final long MOST_BYTES = 1_000_000;
    private static final ThreadMXBean THREADS =
            (ThreadMXBean) ManagementFactory.getThreadMXBean();

    interface Run {
        void make();
    }

    private LongUseTest() {
    }

    public static void main(String[] args) {
        lastCallAnswers();
        small("a new object", () -> new CaptionAlbum());
        small("captions", LongUseTest::writeAlways);
        small("phrases", LongUseTest::nameAlways);
        small("texts with an error", LongUseTest::failAlways);
        small("changes", LongUseTest::changeAlways);
        small("albums", LongUseTest::loadAlways);
        Due.end("LongUseTest");
    }

    /** Four calls before, 507 changes, and the last undo. */
    private static void lastCallAnswers() {
        CaptionAlbum x = new CaptionAlbum();
        Due.feed(x, "album gap 1;name a b;photo 9 9;person 0 3 4");
        int made = 3;
        Due.is("call 4, load(43)", x.load(43), 1);
        made++;
        while (made < CALLS - 1) {
            made++;
            Due.is("call " + made + ", flip(0)", x.flip(0), made % 2 == 1);
        }
        Due.is("call 512, undo()", x.undo(), 5);
    }

    private static void small(String what, Run run) {
        long before = THREADS.getThreadAllocatedBytes(Thread.currentThread().getId());
        run.make();
        long made = THREADS.getThreadAllocatedBytes(Thread.currentThread().getId()) - before;
        Due.is(made + " bytes for " + what + " are few", made > 0 && made <= MOST_BYTES, true);
    }

    /** Twelve people with long names in twelve rows, so that the caption is as long as can be. */
    private static CaptionAlbum fullAlbum() {
        StringBuilder text = new StringBuilder("album gap 0");
        for (char first = 'a'; first < 'a' + 12; first++) {
            text.append(";name ").append(first).append("bcdefgh ").append(first).append("bcdefgh");
        }
        text.append(";photo 999 999;photo 999 999");
        for (int person = 0; person < 12; person++) {
            text.append(";person 0 ").append(person).append(' ').append(person);
            text.append(";person 1 ").append(person).append(" 0");
        }
        CaptionAlbum x = Due.album(text.toString());
        for (int person = 0; person < 12; person++) {
            x.giveName(0, person, person);
        }
        return x;
    }

    private static void writeAlways() {
        CaptionAlbum x = fullAlbum();
        for (int i = CALLS_OF_ALBUM; i < CALLS; i += 2) {
            x.write(0);
            x.writeChange(1);
        }
    }

    private static void nameAlways() {
        CaptionAlbum x = fullAlbum();
        for (int i = CALLS_OF_ALBUM; i < CALLS; i += 2) {
            // "all left someone" and four blanks
            x.append(0x616c6c20, 0x6c656674, 0x20736f6d, 0x656f6e65, 0x20202020);
            x.phrases(0, 16);
        }
    }

    private static void failAlways() {
        CaptionAlbum x = fullAlbum();
        for (int i = CALLS_OF_ALBUM; i < CALLS; i++) {
            Due.argument("load(0)", () -> x.load(0));
        }
    }

    private static void changeAlways() {
        CaptionAlbum x = fullAlbum();
        for (int i = CALLS_OF_ALBUM; i < CALLS; i += 4) {
            x.copyNames(1, 0);
            x.giveName(0, i % 12, i % 10);
            x.save(i / 4 % 2);
            x.restore(i / 4 % 2);
        }
    }

    private static void loadAlways() {
        CaptionAlbum x = new CaptionAlbum();
        for (int i = 0; i < CALLS; i += 3) {
            Due.feed(x, "album gap 1;photo 9 9");
            x.load(21);
        }
    }
}
