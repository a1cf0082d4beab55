/** Promises 8 to 21: photos, their pictures, rows and orders (sections 1 and 2). */
public final class PicturesTest {
    private static final String ALBUM = "album gap 10;photo 100 80;person 0 10 60;person 0 50 62;"
            + "person 0 30 20;person 0 90 55;photo 999 999;person 1 998 998;person 1 0 0";

    private PicturesTest() {
    }

    public static void main(String[] args) {
        photosAndPeople();
        frame();
        shown();
        rows();
        rowChain();
        places();
        order();
        nearest();
        withoutAlbum();
        wrongNumbers();
        Due.end("PicturesTest");
    }

    private static void photosAndPeople() {
        CaptionAlbum x = Due.album(ALBUM);
        Due.is("photos()", x.photos(), 2);
        Due.is("people(0)", x.people(0), 4);
        x.crop(0, 0, 0, 0, 0);
        Due.is("people(0), cropped", x.people(0), 4);
        x.retouch(1, 0, true);
        Due.is("people(1), retouched", x.people(1), 2);
    }

    private static void frame() {
        CaptionAlbum x = Due.album(ALBUM);
        x.crop(0, 5, 6, 70, 71);
        Due.is("LEFT", x.frame(0, 0), 5);
        Due.is("TOP", x.frame(0, 1), 6);
        Due.is("RIGHT", x.frame(0, 2), 70);
        Due.is("BOTTOM", x.frame(0, 3), 71);
        Due.is("RIGHT of 1", x.frame(1, 2), 998);
        Due.argument("frame(0, 4)", () -> x.frame(0, 4));
        Due.argument("frame(0, -1)", () -> x.frame(0, -1));
        Due.index("frame(2, 4)", () -> x.frame(2, 4));
        Due.is("isFlipped(0)", x.isFlipped(0), false);
        x.flip(0);
        Due.is("isFlipped(0), flipped", x.isFlipped(0), true);
        Due.is("isFlipped(1)", x.isFlipped(1), false);
        Due.is("LEFT, flipped", x.frame(0, 0), 5);
    }

    private static void shown() {
        CaptionAlbum x = Due.album(ALBUM);
        Due.is("shownAt(1, 0)", x.shownAt(1, 0), 998998);
        Due.is("shownAt(1, 1)", x.shownAt(1, 1), 0);
        Due.is("inPicture(0)", x.inPicture(0), 15);
        x.crop(0, 10, 20, 50, 60);
        Due.is("isIn(0, 0)", x.isIn(0, 0), true);
        Due.is("isIn(0, 1)", x.isIn(0, 1), false);
        Due.is("isIn(0, 2)", x.isIn(0, 2), true);
        Due.is("isIn(0, 3)", x.isIn(0, 3), false);
        Due.is("inPicture(0), cropped", x.inPicture(0), 5);
        Due.is("shownAt(0, 0), cropped", x.shownAt(0, 0), 40);
        Due.is("shownAt(0, 2), cropped", x.shownAt(0, 2), 20000);
        Due.is("shownAt(0, 3), cropped", x.shownAt(0, 3), -1);
        x.flip(0);
        Due.is("shownAt(0, 0), flipped", x.shownAt(0, 0), 40040);
        x.retouch(0, 0, true);
        Due.is("isIn(0, 0), retouched", x.isIn(0, 0), false);
        Due.is("shownAt(0, 0), retouched", x.shownAt(0, 0), -1);
        Due.is("inPicture(0), retouched", x.inPicture(0), 4);
    }

    private static void rows() {
        CaptionAlbum x = Due.album(ALBUM);
        Due.is("rows", Due.rowsOf(x, 0), "0 1 3; 2");
        Due.is("rows(0)", x.rows(0), 2);
        Due.is("rowLength(0, 0)", x.rowLength(0, 0), 3);
        Due.is("rowLength(0, 1)", x.rowLength(0, 1), 1);
        x.flip(0);
        Due.is("rows, flipped", Due.rowsOf(x, 0), "3 1 0; 2");
        x.retouch(0, 1, true);
        Due.is("rows, retouched", Due.rowsOf(x, 0), "3 0; 2");
        x.crop(0, 0, 0, 99, 54);
        Due.is("rows, cropped", Due.rowsOf(x, 0), "2");
        x.retouch(0, 2, true);
        Due.is("rows(0), nobody", x.rows(0), 0);
    }

    private static void rowChain() {
        String people = ";person 0 8 20;person 0 5 10;person 0 5 30;person 0 1 40;person 0 5 10";
        CaptionAlbum x = Due.album("album gap 10;photo 50 50" + people);
        Due.is("a chain of gaps", Due.rowsOf(x, 0), "3 1 2 4 0");
        Due.is("flipped, equal x", Due.rowsOf(flipped(x), 0), "0 1 2 4 3");
        CaptionAlbum y = Due.album("album gap 9;photo 50 50" + people);
        Due.is("gaps too wide", Due.rowsOf(y, 0), "3; 2; 0; 1 4");
        CaptionAlbum z = Due.album("album gap 0;photo 9 9;person 0 3 3;person 0 2 3;person 0 1 4");
        Due.is("gap 0", Due.rowsOf(z, 0), "2; 1 0");
        CaptionAlbum w = Due.album("album gap 0;photo 1 99;person 0 0 1;person 0 0 2;person 0 0 3;"
                + "person 0 0 4;person 0 0 5;person 0 0 6;person 0 0 7;person 0 0 8;person 0 0 9;"
                + "person 0 0 10;person 0 0 11;person 0 0 12");
        Due.is("twelve rows", Due.rowsOf(w, 0), "11; 10; 9; 8; 7; 6; 5; 4; 3; 2; 1; 0");
    }

    private static CaptionAlbum flipped(CaptionAlbum x) {
        x.flip(0);
        return x;
    }

    private static void places() {
        CaptionAlbum x = Due.album(ALBUM);
        Due.is("rowOf(0, 2)", x.rowOf(0, 2), 1);
        Due.is("rowOf(0, 3)", x.rowOf(0, 3), 0);
        Due.is("placeOf(0, 2)", x.placeOf(0, 2), 0);
        Due.is("placeOf(0, 3)", x.placeOf(0, 3), 2);
        Due.is("personAt(0, 0, 1)", x.personAt(0, 0, 1), 1);
        x.retouch(0, 1, true);
        Due.is("placeOf(0, 3), retouched", x.placeOf(0, 3), 1);
        Due.is("placeOf(0, 1), retouched", x.placeOf(0, 1), -1);
        Due.is("rowOf(0, 1), retouched", x.rowOf(0, 1), -1);
    }

    private static void order() {
        CaptionAlbum x = Due.album("album gap 3;photo 50 50;person 0 7 9;person 0 7 10;"
                + "person 0 3 1;person 0 7 10;person 0 9 49;person 0 7 0");
        Due.is("order", Due.order(x, 0), "2 1 3 0 5 4");
        x.flip(0);
        Due.is("order, flipped", Due.order(x, 0), "4 1 3 0 5 2");
        x.retouch(0, 3, true);
        Due.is("order, retouched", Due.order(x, 0), "4 1 0 5 2");
        Due.is("inOrder(0, 4)", x.inOrder(0, 4), 2);
        Due.index("inOrder(0, 5)", () -> x.inOrder(0, 5));
        Due.index("inOrder(0, -1)", () -> x.inOrder(0, -1));
    }

    private static void nearest() {
        CaptionAlbum x = Due.album(ALBUM);
        Due.is("nearest 0", x.nearest(0, 30, 30, 0), 2);
        Due.is("nearest 1", x.nearest(0, 30, 30, 1), 0);
        Due.is("nearest 2", x.nearest(0, 30, 30, 2), 1);
        Due.is("nearest 3", x.nearest(0, 30, 30, 3), 3);
        Due.is("the far corner", x.nearest(1, 999, 999, 1), 1);
        Due.is("the near corner", x.nearest(1, 0, 0, 0), 1);
        Due.is("the square", x.nearest(1, 0, 999, 0), 0);
        x.flip(0);
        Due.is("nearest, flipped", x.nearest(0, 0, 55, 0), 3);
        CaptionAlbum y = Due.album("album gap 1;photo 99 99;person 0 10 14;person 0 14 10;"
                + "person 0 13 13;person 0 6 10");
        Due.is("equal 0", y.nearest(0, 10, 10, 0), 0);
        Due.is("equal 1", y.nearest(0, 10, 10, 1), 1);
        Due.is("equal 2", y.nearest(0, 10, 10, 2), 3);
        Due.is("squares", y.nearest(0, 10, 10, 3), 2);
        Due.argument("nearest(0, 1000, 0, 0)", () -> y.nearest(0, 1000, 0, 0));
        Due.argument("nearest(0, -1, 0, 0)", () -> y.nearest(0, -1, 0, 0));
        Due.argument("nearest(0, 0, 1000, 0)", () -> y.nearest(0, 0, 1000, 0));
        Due.argument("nearest(0, 0, -1, 0)", () -> y.nearest(0, 0, -1, 0));
        Due.index("nearest(0, -1, 0, 4)", () -> y.nearest(0, -1, 0, 4));
        Due.index("nearest(0, 0, 0, -1)", () -> y.nearest(0, 0, 0, -1));
        Due.is("nearest(0, 999, 999, 3)", y.nearest(0, 999, 999, 3), 3);
    }

    private static void withoutAlbum() {
        CaptionAlbum x = new CaptionAlbum();
        Due.state("people", () -> x.people(-1));
        Due.state("frame", () -> x.frame(-1, 9));
        Due.state("isFlipped", () -> x.isFlipped(-1));
        Due.state("isIn", () -> x.isIn(-1, 0));
        Due.state("shownAt", () -> x.shownAt(-1, 0));
        Due.state("inPicture", () -> x.inPicture(-1));
        Due.state("rows", () -> x.rows(-1));
        Due.state("rowLength", () -> x.rowLength(-1, 0));
        Due.state("personAt", () -> x.personAt(-1, 0, 0));
        Due.state("rowOf", () -> x.rowOf(-1, 0));
        Due.state("placeOf", () -> x.placeOf(-1, 0));
        Due.state("inOrder", () -> x.inOrder(-1, 0));
        Due.state("nearest", () -> x.nearest(-1, -1, 0, 0));
    }

    private static void wrongNumbers() {
        CaptionAlbum x = Due.album(ALBUM);
        int[] photos = {-1, 2, 5, Integer.MAX_VALUE, Integer.MIN_VALUE};
        for (int photo : photos) {
            Due.index("people", () -> x.people(photo));
            Due.index("isFlipped", () -> x.isFlipped(photo));
            Due.index("isIn", () -> x.isIn(photo, 0));
            Due.index("shownAt", () -> x.shownAt(photo, 0));
            Due.index("inPicture", () -> x.inPicture(photo));
            Due.index("rows", () -> x.rows(photo));
            Due.index("rowLength", () -> x.rowLength(photo, 0));
            Due.index("personAt", () -> x.personAt(photo, 0, 0));
            Due.index("rowOf", () -> x.rowOf(photo, 0));
            Due.index("placeOf", () -> x.placeOf(photo, 0));
            Due.index("inOrder", () -> x.inOrder(photo, 0));
            Due.index("nearest", () -> x.nearest(photo, 0, 0, 0));
        }
        int[] people = {-1, 4, 12, Integer.MAX_VALUE, Integer.MIN_VALUE};
        for (int person : people) {
            Due.index("isIn", () -> x.isIn(0, person));
            Due.index("shownAt", () -> x.shownAt(0, person));
            Due.index("rowOf", () -> x.rowOf(0, person));
            Due.index("placeOf", () -> x.placeOf(0, person));
            Due.index("rowLength", () -> x.rowLength(0, person));
            Due.index("personAt", () -> x.personAt(0, person, 0));
            Due.index("personAt", () -> x.personAt(0, 0, person));
        }
        Due.index("rowLength(0, 2)", () -> x.rowLength(0, 2));
        Due.index("personAt(0, 0, 3)", () -> x.personAt(0, 0, 3));
        Due.index("personAt(0, 1, 1)", () -> x.personAt(0, 1, 1));
    }
}
