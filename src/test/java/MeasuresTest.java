/** Promises 32 to 38: measures of pictures. */
public final class MeasuresTest {
    private static final String ALBUM = "album gap 10;photo 100 80;person 0 10 60;person 0 50 62;"
            + "person 0 30 20;person 0 90 55;photo 999 999;person 1 998 998;person 1 0 0;photo 7 3";

    private MeasuresTest() {
    }

    public static void main(String[] args) {
        groups();
        linking();
        spacing();
        aspect();
        keeps();
        tightest();
        window();
        withoutAlbum();
        wrongPhotos();
        Due.end("MeasuresTest");
    }

    private static void groups() {
        CaptionAlbum x = Due.album(ALBUM);
        // Distances: 0-1 42, 0-2 60, 0-3 85, 1-2 62, 1-3 47, 2-3 95.
        Due.is("0", x.groups(0, 0), 4);
        Due.is("41", x.groups(0, 41), 4);
        Due.is("42", x.groups(0, 42), 3);
        Due.is("46", x.groups(0, 46), 3);
        Due.is("47", x.groups(0, 47), 2);
        Due.is("59", x.groups(0, 59), 2);
        Due.is("60", x.groups(0, 60), 1);
        Due.is("1998", x.groups(0, 1998), 1);
        Due.is("corners, 1995", x.groups(1, 1995), 2);
        Due.is("corners, 1996", x.groups(1, 1996), 1);
        Due.is("nobody", x.groups(2, 5), 0);
        x.retouch(0, 1, true);
        Due.is("retouched", x.groups(0, 60), 2);
        Due.argument("groups(0, -1)", () -> x.groups(0, -1));
        Due.argument("groups(0, 1999)", () -> x.groups(0, 1999));
        Due.index("groups(3, 1999)", () -> x.groups(3, 1999));
        CaptionAlbum y = Due.album("album gap 1;photo 9 9;person 0 1 1;person 0 1 1;person 0 4 1");
        Due.is("one position", y.groups(0, 0), 2);
    }

    private static void linking() {
        CaptionAlbum x = Due.album(ALBUM);
        Due.is("four", x.linking(0), 60);
        Due.is("corners", x.linking(1), 1996);
        Due.is("nobody", x.linking(2), 0);
        x.retouch(0, 1, true);
        Due.is("three", x.linking(0), 85);
        x.retouch(0, 0, true);
        Due.is("two", x.linking(0), 95);
        x.retouch(0, 2, true);
        Due.is("one", x.linking(0), 0);
    }

    private static void spacing() {
        CaptionAlbum x = Due.album(ALBUM);
        Due.is("three", x.spacing(0, 0), 40f);
        Due.is("one", x.spacing(0, 1), 0f);
        x.crop(0, 20, 0, 99, 79);
        Due.is("two", x.spacing(0, 0), 40f);
        Due.index("spacing(0, 2)", () -> x.spacing(0, 2));
        Due.index("spacing(0, -1)", () -> x.spacing(0, -1));
        Due.index("spacing(2, 0)", () -> x.spacing(2, 0));
        CaptionAlbum y = Due.album("album gap 1;photo 9 9;person 0 1 1;person 0 2 1;person 0 4 1;"
                + "person 0 8 1;photo 9 9;person 1 2 1;person 1 2 1");
        Due.is("a third", y.spacing(0, 0), 7f / 3f);
        Due.is("one position", y.spacing(1, 0), 0f);
    }

    private static void aspect() {
        CaptionAlbum x = Due.album(ALBUM);
        Due.is("whole", x.aspect(0), 1.25f);
        Due.is("7 to 3", x.aspect(2), 7f / 3f);
        x.crop(0, 10, 10, 10, 12);
        Due.is("1 to 3", x.aspect(0), 1f / 3f);
    }

    private static void keeps() {
        CaptionAlbum x = Due.album(ALBUM);
        Due.is("whole", x.keeps(0, 0, 0, 99, 79), 15);
        Due.is("x2", x.keeps(0, 0, 0, 50, 79), 7);
        Due.is("x2 less", x.keeps(0, 0, 0, 49, 79), 5);
        Due.is("x1", x.keeps(0, 50, 0, 99, 79), 10);
        Due.is("x1 more", x.keeps(0, 51, 0, 99, 79), 8);
        Due.is("y1", x.keeps(0, 0, 60, 99, 79), 3);
        Due.is("y2", x.keeps(0, 0, 0, 99, 60), 13);
        Due.is("nothing changed", x.undoable(), 0);
        x.retouch(0, 0, true);
        Due.is("retouched", x.keeps(0, 0, 0, 99, 79), 14);
        x.crop(0, 20, 10, 60, 70);
        x.flip(0);
        Due.is("flipped", x.keeps(0, 0, 0, 10, 60), 2);
        Due.is("flipped, the other", x.keeps(0, 11, 0, 40, 60), 4);
        wrongRectangles(x);
    }

    private static void wrongRectangles(CaptionAlbum x) {
        Due.argument("x1 -1", () -> x.keeps(0, -1, 0, 5, 5));
        Due.argument("y1 -1", () -> x.keeps(0, 0, -1, 5, 5));
        Due.argument("x2 41", () -> x.keeps(0, 0, 0, 41, 5));
        Due.argument("y2 61", () -> x.keeps(0, 0, 0, 5, 61));
        Due.argument("x2 < x1", () -> x.keeps(0, 6, 0, 5, 5));
        Due.argument("y2 < y1", () -> x.keeps(0, 0, 6, 5, 5));
        Due.argument("x1 41", () -> x.keeps(0, 41, 0, 41, 5));
        Due.argument("far", () -> x.keeps(0, 0, 0, Integer.MAX_VALUE, Integer.MAX_VALUE));
        Due.index("keeps(3, ..)", () -> x.keeps(3, -1, 0, 0, 0));
        Due.is("corners", x.keeps(0, 40, 60, 40, 60), 0);
    }

    private static void tightest() {
        CaptionAlbum x = Due.album(ALBUM);
        Due.is("x1", x.tightest(0, 14, 0), 30);
        Due.is("y1", x.tightest(0, 14, 1), 20);
        Due.is("x2", x.tightest(0, 14, 2), 90);
        Due.is("y2", x.tightest(0, 14, 3), 62);
        Due.is("one", x.tightest(0, 1, 2), 10);
        Due.is("the far corner", x.tightest(1, 1, 1), 998);
        x.crop(0, 20, 10, 99, 79);
        x.flip(0);
        Due.is("x1, flipped", x.tightest(0, 6, 0), 49);
        Due.is("x2, flipped", x.tightest(0, 6, 2), 69);
        Due.is("y1, cropped", x.tightest(0, 6, 1), 10);
        Due.argument("empty", () -> x.tightest(0, 0, 0));
        Due.argument("not in the picture", () -> x.tightest(0, 3, 0));
        Due.argument("no such person", () -> x.tightest(0, 16, 0));
        Due.argument("all bits", () -> x.tightest(0, -1, 0));
        Due.argument("the highest bit", () -> x.tightest(0, Integer.MIN_VALUE, 0));
        Due.argument("what 4", () -> x.tightest(0, 2, 4));
        Due.argument("what -1", () -> x.tightest(0, 2, -1));
        Due.index("tightest(3, ..)", () -> x.tightest(3, 0, 4));
    }

    private static void window() {
        CaptionAlbum x = Due.album(ALBUM);
        Due.is("width 1", x.window(0, 1), 10);
        Due.is("width 20", x.window(0, 20), 0);
        Due.is("width 21", x.window(0, 21), 10);
        Due.is("width 40", x.window(0, 40), 0);
        Due.is("width 41", x.window(0, 41), 10);
        Due.is("width 60", x.window(0, 60), 0);
        Due.is("width 81", x.window(0, 81), 10);
        Due.is("width 90", x.window(0, 90), 1);
        Due.is("width 100", x.window(0, 100), 0);
        Due.is("nobody", x.window(2, 1), 0);
        Due.argument("width 0", () -> x.window(0, 0));
        Due.argument("width 101", () -> x.window(0, 101));
        Due.index("window(3, 0)", () -> x.window(3, 0));
        x.crop(0, 20, 0, 99, 79);
        x.flip(0);
        Due.is("flipped", x.window(0, 41), 9);
        Due.is("width 80", x.window(0, 80), 0);
        Due.argument("width 81", () -> x.window(0, 81));
    }

    private static void withoutAlbum() {
        CaptionAlbum x = new CaptionAlbum();
        Due.state("groups", () -> x.groups(-1, -1));
        Due.state("linking", () -> x.linking(-1));
        Due.state("spacing", () -> x.spacing(-1, 0));
        Due.state("aspect", () -> x.aspect(-1));
        Due.state("keeps", () -> x.keeps(-1, -1, 0, 0, 0));
        Due.state("tightest", () -> x.tightest(-1, 0, 0));
        Due.state("window", () -> x.window(-1, 0));
    }

    private static void wrongPhotos() {
        CaptionAlbum x = Due.album(ALBUM);
        int[] photos = {-1, 3, Integer.MAX_VALUE, Integer.MIN_VALUE};
        for (int photo : photos) {
            Due.index("groups", () -> x.groups(photo, 0));
            Due.index("linking", () -> x.linking(photo));
            Due.index("spacing", () -> x.spacing(photo, 0));
            Due.index("aspect", () -> x.aspect(photo));
            Due.index("keeps", () -> x.keeps(photo, 0, 0, 0, 0));
            Due.index("tightest", () -> x.tightest(photo, 1, 0));
            Due.index("window", () -> x.window(photo, 1));
        }
    }
}
