/** Promises 22 to 31: names, and the names that pictures share (section 3). */
public final class NamesTest {
    private static final String ALBUM = "album gap 5;name cy fox;name ann lee;name abcdefgh zyxwvuts;"
            + "name an lee;name bo le;photo 100 50;person 0 10 10;person 0 20 10;person 0 30 10;"
            + "person 0 40 10;photo 100 50;person 1 10 10;person 1 20 10;person 1 30 10;"
            + "person 1 40 10;photo 10 10";

    private NamesTest() {
    }

    public static void main(String[] args) {
        namesAndLetters();
        nameOfAndWho();
        photosWith();
        unnamed();
        mostSeen();
        common();
        inversions();
        mirrored();
        withoutAlbum();
        wrongNumbers();
        Due.end("NamesTest");
    }

    private static void namesAndLetters() {
        CaptionAlbum x = Due.album(ALBUM);
        Due.is("names()", x.names(), 5);
        Due.is("letters(0)", x.letters(0), 5);
        Due.is("letters(1)", x.letters(1), 6);
        Due.is("letters(2)", x.letters(2), 16);
        Due.is("letters(4)", x.letters(4), 4);
        Due.is("names(), none", Due.album("album gap 1;photo 1 1").names(), 0);
    }

    private static void nameOfAndWho() {
        CaptionAlbum x = Due.album(ALBUM);
        Due.is("nameOf(0, 0)", x.nameOf(0, 0), -1);
        Due.is("who(0, 0)", x.who(0, 0), -1);
        x.giveName(0, 2, 4);
        Due.is("nameOf(0, 2)", x.nameOf(0, 2), 4);
        Due.is("who(0, 4)", x.who(0, 4), 2);
        Due.is("who(1, 4)", x.who(1, 4), -1);
        x.retouch(0, 2, true);
        Due.is("nameOf(0, 2), retouched", x.nameOf(0, 2), 4);
        Due.is("who(0, 4), retouched", x.who(0, 4), 2);
    }

    private static void photosWith() {
        CaptionAlbum x = Due.album(ALBUM);
        Due.is("nobody", x.photosWith(4), 0);
        x.giveName(0, 1, 4);
        x.giveName(1, 3, 4);
        Due.is("both", x.photosWith(4), 3);
        x.crop(0, 0, 0, 15, 49);
        Due.is("cropped", x.photosWith(4), 2);
        x.retouch(1, 3, true);
        Due.is("retouched", x.photosWith(4), 0);
        x.addPerson(2, 0, 0);
        x.giveName(2, 0, 4);
        Due.is("the third", x.photosWith(4), 4);
        Due.is("another", x.photosWith(0), 0);
    }

    private static void unnamed() {
        CaptionAlbum x = Due.album(ALBUM);
        Due.is("all", x.unnamed(0), 4);
        x.giveName(0, 1, 0);
        x.giveName(0, 2, 1);
        Due.is("two", x.unnamed(0), 2);
        x.crop(0, 0, 0, 25, 49);
        Due.is("cropped", x.unnamed(0), 1);
        x.retouch(0, 0, true);
        Due.is("retouched", x.unnamed(0), 0);
        Due.is("nobody", x.unnamed(2), 0);
    }

    private static void mostSeen() {
        CaptionAlbum x = Due.album(ALBUM);
        // cy fox, bo le, an lee, ann lee, abcdefgh zyxwvuts
        Due.is("by words", ranks(x), "0 4 3 1 2 ");
        x.giveName(0, 0, 2);
        x.giveName(1, 0, 2);
        x.giveName(0, 1, 1);
        Due.is("by photos", ranks(x), "2 1 0 4 3 ");
        x.retouch(0, 0, true);
        Due.is("retouched", ranks(x), "1 2 0 4 3 ");
        Due.index("mostSeen(5)", () -> x.mostSeen(5));
        Due.index("mostSeen(-1)", () -> x.mostSeen(-1));
        CaptionAlbum y = Due.album("album gap 1;photo 1 1");
        Due.index("mostSeen(0), no names", () -> y.mostSeen(0));
        CaptionAlbum z = Due.album("album gap 1;photo 1 1;name b zz;name a zz;name z a;name z aa");
        Due.is("LAST before FIRST", ranks(z), "2 3 1 0 ");
    }

    private static String ranks(CaptionAlbum x) {
        StringBuilder names = new StringBuilder();
        for (int rank = 0; rank < x.names(); rank++) {
            names.append(x.mostSeen(rank)).append(' ');
        }
        return names.toString();
    }

    private static void common() {
        CaptionAlbum x = Due.album(ALBUM);
        give(x, 0, 0, 1, 2, 3);
        give(x, 1, 3, 4, 1, -1);
        Due.is("common(0, 1)", x.common(0, 1), 10);
        Due.is("common(1, 0)", x.common(1, 0), 10);
        Due.is("common(0, 0)", x.common(0, 0), 15);
        Due.is("common(0, 2)", x.common(0, 2), 0);
        x.retouch(1, 0, true);
        Due.is("common(0, 1), retouched", x.common(0, 1), 2);
        x.crop(0, 0, 0, 5, 49);
        Due.is("common(0, 0), cropped", x.common(0, 0), 0);
    }

    private static void give(CaptionAlbum x, int photo, int... names) {
        for (int person = 0; person < names.length; person++) {
            x.giveName(photo, person, names[person]);
        }
    }

    private static void inversions() {
        CaptionAlbum x = Due.album(ALBUM);
        give(x, 0, 0, 1, 2, 3);
        give(x, 1, 3, 0, 2, 1);
        Due.is("inversions(0, 1)", x.inversions(0, 1), 4);
        Due.is("inversions(1, 0)", x.inversions(1, 0), 4);
        Due.is("inversions(0, 0)", x.inversions(0, 0), 0);
        x.flip(0);
        Due.is("flipped", x.inversions(0, 1), 2);
        x.retouch(1, 2, true);
        Due.is("retouched", x.inversions(0, 1), 1);
        x.giveName(1, 1, 4);
        Due.is("another name", x.inversions(0, 1), 0);
        Due.is("nobody", x.inversions(0, 2), 0);
        CaptionAlbum y = Due.album("album gap 1;name a b;name c d;photo 9 9;person 0 1 1;"
                + "person 0 1 2;photo 9 9;person 1 1 1;person 1 1 1");
        give(y, 0, 0, 1);
        give(y, 1, 0, 1);
        Due.is("one x, the greater y first", y.inversions(0, 1), 1);
    }

    private static void mirrored() {
        CaptionAlbum x = Due.album(ALBUM);
        Due.is("no pairs", x.isMirrored(0, 1), false);
        give(x, 0, 0, 1, 2, 3);
        give(x, 1, 3, 0, 2, 1);
        Due.is("4 of 6", x.isMirrored(0, 1), true);
        x.flip(0);
        Due.is("2 of 6", x.isMirrored(0, 1), false);
        x.flip(0);
        give(x, 1, 3, 0, 1, 2);
        Due.is("3 of 6", x.isMirrored(0, 1), false);
        give(x, 1, 1, 0, -1, -1);
        Due.is("1 of 1", x.isMirrored(0, 1), true);
        Due.is("the same", x.isMirrored(0, 0), false);
    }

    private static void withoutAlbum() {
        CaptionAlbum x = new CaptionAlbum();
        Due.state("letters", () -> x.letters(-1));
        Due.state("nameOf", () -> x.nameOf(-1, 0));
        Due.state("who", () -> x.who(-1, -1));
        Due.state("photosWith", () -> x.photosWith(-1));
        Due.state("unnamed", () -> x.unnamed(-1));
        Due.state("mostSeen", () -> x.mostSeen(-1));
        Due.state("common", () -> x.common(-1, 0));
        Due.state("inversions", () -> x.inversions(0, -1));
        Due.state("isMirrored", () -> x.isMirrored(-1, 0));
    }

    private static void wrongNumbers() {
        CaptionAlbum x = Due.album(ALBUM);
        int[] photos = {-1, 3, Integer.MAX_VALUE, Integer.MIN_VALUE};
        for (int photo : photos) {
            Due.index("nameOf", () -> x.nameOf(photo, 0));
            Due.index("who", () -> x.who(photo, 0));
            Due.index("unnamed", () -> x.unnamed(photo));
            Due.index("common", () -> x.common(photo, 0));
            Due.index("common", () -> x.common(0, photo));
            Due.index("inversions", () -> x.inversions(photo, 0));
            Due.index("inversions", () -> x.inversions(0, photo));
            Due.index("isMirrored", () -> x.isMirrored(photo, 0));
            Due.index("isMirrored", () -> x.isMirrored(0, photo));
        }
        int[] names = {-1, 5, 20, Integer.MAX_VALUE, Integer.MIN_VALUE};
        for (int name : names) {
            Due.index("letters", () -> x.letters(name));
            Due.index("who", () -> x.who(0, name));
            Due.index("photosWith", () -> x.photosWith(name));
            Due.index("mostSeen", () -> x.mostSeen(name));
            Due.index("nameOf", () -> x.nameOf(0, name));
        }
    }
}
