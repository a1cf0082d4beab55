/** Promise 4: phrases (sections 4, 6 and 7). */
public final class PhrasesTest {
    private static final String NAMES = "name ann lee;name bob lee;name cy lee;name dee fox;";
    private static final String LINE = "album gap 5;" + NAMES
            + "photo 100 50;person 0 40 30;person 0 10 32;person 0 70 27;person 0 70 31;"
            + "person 0 20 5;photo 9 9";
    // Photo 0 has the rows 1 0 2 3 and 4, and the order 1 4 0 3 2.

    private PhrasesTest() {
    }

    public static void main(String[] args) {
        rows();
        everybody();
        at();
        beside();
        between();
        several();
        wrongRows();
        wrongItems();
        wrongAt();
        wrongBesideAndBetween();
        thirteenFirsts();
        exceptions();
        Due.end("PhrasesTest");
    }

    private static void rows() {
        CaptionAlbum x = Due.album(LINE);
        Due.is("row left", Due.phrases(x, 0, "row 0 left ann and bob lee,dee fox"), 3);
        Due.is("names", Due.namesOf(x, 0), "1 0 3 - -");
        Due.is("row right", Due.phrases(x, 0, "row 0 right someone,ann lee"), 1);
        Due.is("names from the right", Due.namesOf(x, 0), "1 - 0 - -");
        Due.is("whole row right", Due.phrases(x, 0, "row 0 right ann and bob and cy lee,dee fox"), 4);
        Due.is("names of the whole row", Due.namesOf(x, 0), "2 3 1 0 -");
        x.undo();
        Due.is("two phrases", Due.phrases(x, 0, "row 0 left dee fox;row 0 left cy lee"), 2);
        Due.is("names of two phrases", Due.namesOf(x, 0), "1 2 0 - -");
        x.undo();
        Due.is("row 1", Due.phrases(x, 0, "row 0001 right ann lee"), 1);
        Due.is("names of row 1", Due.namesOf(x, 0), "1 - - - 0");
        Due.is("someone", Due.phrases(x, 0, "row 0 left someone,someone"), 0);
        Due.is("undoable()", x.undoable(), 4);
        Due.is("twice", Due.phrases(x, 0, "row 0 left ann lee,ann lee, ann lee"), 3);
        Due.is("names after twice", Due.namesOf(x, 0), "- - 0 - -");
        Due.is("the name of the person", Due.phrases(x, 0, "row 0 right someone, ann lee"), 1);
        Due.is("undo()", x.undo(), 5);
        Due.is("undo()", x.undo(), 4);
        Due.is("names after undo", Due.namesOf(x, 0), "1 - - - 0");
    }

    private static void everybody() {
        CaptionAlbum x = Due.album(LINE);
        Due.is("all left", Due.phrases(x, 0, "all left ann lee,bob and cy lee,someone,dee fox"), 4);
        Due.is("names", Due.namesOf(x, 0), "2 0 3 - 1");
        Due.is("all right", Due.phrases(x, 0, "all right ann and bob lee"), 2);
        Due.is("names from the right", Due.namesOf(x, 0), "2 - 0 1 -");
        x.crop(0, 15, 0, 99, 30);
        Due.is("all left, cropped", Due.phrases(x, 0, "all left bob lee"), 1);
        Due.is("names, cropped", Due.namesOf(x, 0), "2 - 0 - 1");
        x.flip(0);
        Due.is("all left, flipped", Due.phrases(x, 0, "all left dee fox"), 1);
        Due.is("names, flipped", Due.namesOf(x, 0), "2 - 3 - 1");
    }

    private static void at() {
        CaptionAlbum x = Due.album(LINE);
        Due.is("at", Due.phrases(x, 0, "at 0 0 ann lee"), 1);
        Due.is("at the same distance", Due.phrases(x, 0, "at 70 29 bob lee"), 1);
        Due.is("names", Due.namesOf(x, 0), "- - 1 - 0");
        x.retouch(0, 2, true);
        Due.is("at, retouched", Due.phrases(x, 0, "at 999 999 cy lee"), 1);
        Due.is("names, retouched", Due.namesOf(x, 0), "- - 1 2 0");
        x.flip(0);
        Due.is("at, flipped", Due.phrases(x, 0, "at 999 0 cy lee"), 1);
        Due.is("names, flipped", Due.namesOf(x, 0), "- 2 1 - 0");
        x.crop(0, 79, 5, 79, 5);
        Due.is("one person", Due.phrases(x, 0, "at 999 0 dee fox"), 1);
        Due.is("name of the one", x.nameOf(0, 4), 3);
    }

    private static void beside() {
        CaptionAlbum x = Due.album(LINE);
        x.giveName(0, 0, 0);
        Due.is("beside right", Due.phrases(x, 0, "beside ann lee right bob lee"), 1);
        Due.is("beside left", Due.phrases(x, 0, "beside ann lee left cy lee"), 1);
        Due.is("names", Due.namesOf(x, 0), "0 2 1 - -");
        Due.is("the same", Due.phrases(x, 0, "beside ann lee left ann lee"), 1);
        Due.is("names after the same", Due.namesOf(x, 0), "- 0 1 - -");
        x.flip(0);
        Due.is("flipped", Due.phrases(x, 0, "beside ann lee left dee fox"), 1);
        Due.is("names, flipped", Due.namesOf(x, 0), "3 0 1 - -");
    }

    private static void between() {
        CaptionAlbum x = Due.album(LINE);
        x.giveName(0, 1, 0);
        x.giveName(0, 2, 1);
        Due.is("between", Due.phrases(x, 0, "between ann lee bob lee dee fox"), 1);
        Due.is("names", Due.namesOf(x, 0), "3 0 1 - -");
        Due.is("turned", Due.phrases(x, 0, "between bob lee ann lee cy lee"), 1);
        Due.is("names, turned", Due.namesOf(x, 0), "2 0 1 - -");
        Due.is("one of the two", Due.phrases(x, 0, "between bob lee ann lee ann lee"), 1);
        Due.is("names after that", Due.namesOf(x, 0), "0 - 1 - -");
    }

    private static void several() {
        CaptionAlbum x = Due.album(LINE);
        Due.is("one after the other", Due.phrases(x, 0,
                "row 0 left ann lee;beside ann lee right bob lee ; beside bob lee right cy lee;"
                + "between ann lee cy lee dee fox;at 0 0 ann lee"), 5);
        Due.is("names", Due.namesOf(x, 0), "3 - 2 - 0");
        Due.is("one change", x.undo(), 0);
        Due.is("names after undo", Due.namesOf(x, 0), "- - - - -");
        Due.is("buffered()", x.buffered(), 0);
        Due.feed(x, "all left ann lee, bob lee");
        Due.is("the first bytes only", x.phrases(0, 16), 1);
        Due.is("buffered()", x.buffered(), 0);
    }

    private static void wrongRows() {
        CaptionAlbum x = Due.album(LINE);
        Due.phrasesFail(x, 0, "", 1, 0);
        Due.phrasesFail(x, 0, "   ", 1, 3);
        Due.phrasesFail(x, 0, "someone", 1, 0);
        Due.phrasesFail(x, 0, "row", 1, 3);
        Due.phrasesFail(x, 0, "row 2 left ann lee", 2, 4);
        Due.phrasesFail(x, 0, "row 00000 left ann lee", 1, 4);
        Due.phrasesFail(x, 0, "row left", 1, 4);
        Due.phrasesFail(x, 0, "row 0 ann", 1, 6);
        Due.phrasesFail(x, 0, "row 0 left", 1, 10);
        Due.phrasesFail(x, 0, "row 0 left right", 1, 11);
        Due.phrasesFail(x, 0, "row 0 left ann", 1, 14);
        Due.phrasesFail(x, 0, "row 0 left ann and", 1, 18);
        Due.phrasesFail(x, 0, "row 0 left ann and someone", 1, 19);
        Due.phrasesFail(x, 0, "row 0 left ann,", 1, 14);
        Due.phrasesFail(x, 0, "row 0 left ann and and", 1, 19);
    }

    private static void wrongItems() {
        CaptionAlbum x = Due.album(LINE);
        Due.phrasesFail(x, 0, "row 0 left ann lee and", 1, 19);
        Due.phrasesFail(x, 0, "row 0 left ann lee bob", 1, 19);
        Due.phrasesFail(x, 0, "row 0 left ann lee,", 1, 19);
        Due.phrasesFail(x, 0, "row 0 left ann lee;", 1, 19);
        Due.phrasesFail(x, 0, "row 0 left ann lee;;", 1, 19);
        Due.phrasesFail(x, 0, "row 0 left someone lee", 1, 19);
        Due.phrasesFail(x, 0, "row 0 left ann leeleelee", 1, 15);
        Due.phrasesFail(x, 0, "row 0 left ann fox", 6, 15);
        Due.phrasesFail(x, 0, "row 0 left ann and dee lee", 6, 23);
        Due.phrasesFail(x, 0, "row 0 left dee and ann lee", 6, 23);
        Due.phrasesFail(x, 0, "row 0 left ann and xy zett", 6, 22);
        Due.phrasesFail(x, 0, "row 0 left ann lee, all", 1, 20);
        Due.phrasesFail(x, 0, "row 1 left ann lee, bob lee", 7, 20);
        Due.phrasesFail(x, 0, "row 1 left ann and bob lee", 7, 19);
        Due.phrasesFail(x, 0, "row 1 left someone,someone", 7, 19);
        Due.phrasesFail(x, 0, "row 1 left someone,left", 1, 19);
        Due.phrasesFail(x, 0, "row 1 left someone,", 1, 19);
        Due.phrasesFail(x, 0, "row 1 left ann and dee lee", 7, 19);
        Due.phrasesFail(x, 0, "all left ann lee;all left bob fox", 6, 30);
        Due.phrasesFail(x, 1, "row 0 left ann lee", 2, 4);
        Due.phrasesFail(x, 1, "all left ann lee", 7, 9);
        Due.phrasesFail(x, 1, "all left someone", 7, 9);
        Due.phrasesFail(x, 1, "all left and", 1, 9);
    }

    private static void wrongAt() {
        CaptionAlbum x = Due.album(LINE);
        Due.phrasesFail(x, 0, "at 1000 0 ann lee", 2, 3);
        Due.phrasesFail(x, 0, "at 0 1000 ann lee", 2, 5);
        Due.phrasesFail(x, 0, "at ann lee", 1, 3);
        Due.phrasesFail(x, 0, "at 0 ann lee", 1, 5);
        Due.phrasesFail(x, 0, "at 0 0 left lee", 1, 7);
        Due.phrasesFail(x, 0, "at 0 0 ann", 1, 10);
        Due.phrasesFail(x, 0, "at 0 0 ann fox", 6, 11);
        Due.phrasesFail(x, 0, "at 0 0 ann lee, bob lee", 1, 14);
        Due.phrasesFail(x, 1, "at 0 0 ann lee", 7, 5);
        Due.phrasesFail(x, 1, "at 0 1000 ann lee", 2, 5);
        Due.phrasesFail(x, 1, "at 1000 0 ann lee", 2, 3);
    }

    private static void wrongBesideAndBetween() {
        CaptionAlbum x = Due.album(LINE);
        x.giveName(0, 1, 0);
        x.giveName(0, 3, 1);
        x.giveName(0, 4, 2);
        Due.phrasesFail(x, 0, "beside ann fox left bob lee", 6, 11);
        Due.phrasesFail(x, 0, "beside dee fox left bob lee", 6, 11);
        Due.phrasesFail(x, 0, "beside ann lee left bob lee", 7, 15);
        Due.phrasesFail(x, 0, "beside bob lee right ann lee", 7, 15);
        Due.phrasesFail(x, 0, "beside cy lee right ann lee", 7, 14);
        Due.phrasesFail(x, 0, "beside ann lee ann lee", 1, 15);
        Due.phrasesFail(x, 0, "beside ann lee", 1, 14);
        Due.phrasesFail(x, 0, "beside ann lee right ann fox", 6, 25);
        Due.phrasesFail(x, 0, "between ann fox bob lee dee fox", 6, 12);
        Due.phrasesFail(x, 0, "between dee fox bob lee dee fox", 6, 12);
        Due.phrasesFail(x, 0, "between ann lee dee fox dee fox", 6, 20);
        Due.phrasesFail(x, 0, "between ann lee bob lee dee fox", 7, 20);
        Due.phrasesFail(x, 0, "between ann lee cy lee dee fox", 7, 19);
        Due.phrasesFail(x, 0, "between ann lee ann lee dee fox", 7, 20);
        x.giveName(0, 2, 1);
        Due.phrasesFail(x, 0, "between ann lee bob lee dee lee", 6, 28);
        Due.phrasesFail(x, 0, "between ann lee bob lee", 1, 23);
        x.retouch(0, 1, true);
        Due.phrasesFail(x, 0, "beside ann lee right bob lee", 6, 11);
        Due.phrasesFail(x, 0, "between bob lee ann lee dee fox", 6, 20);
        Due.is("who(0, 0)", x.who(0, 0), 1);
    }

    private static void thirteenFirsts() {
        CaptionAlbum x = Due.album("album gap 0;name a b;photo 20 20" + ";person 0 1 1".repeat(12));
        String twelve = "all left a" + " and a".repeat(11);
        Due.is("twelve", Due.phrases(x, 0, twelve + " b"), 12);
        Due.phrasesFail(x, 0, twelve + " and a b", 7, twelve.length() + 5);
        Due.phrasesFail(x, 0, twelve + " and and b", 1, twelve.length() + 5);
        Due.phrasesFail(x, 0, twelve + " c", 6, twelve.length() + 1);
    }

    private static void exceptions() {
        CaptionAlbum x = new CaptionAlbum();
        Due.feed(x, "all left a b");
        Due.state("phrases(-1, -1)", () -> x.phrases(-1, -1));
        Due.is("buffered()", x.buffered(), 20);
        CaptionAlbum y = Due.album(LINE);
        Due.feed(y, "all left a b");
        Due.index("phrases(-1, 1)", () -> y.phrases(-1, 1));
        Due.index("phrases(2, 1)", () -> y.phrases(2, 1));
        Due.index("phrases(0, 21)", () -> y.phrases(0, 21));
        Due.index("phrases(0, -1)", () -> y.phrases(0, -1));
        Due.is("buffered()", y.buffered(), 20);
        Due.is("parseError()", y.parseError(), 0);
    }
}
