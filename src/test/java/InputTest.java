/** Promises 1 to 3 and 5 to 7, and the text of albums (sections 6 and 7). */
public final class InputTest {
    private static final String SMALL = "album gap 1;photo 10 10";

    private InputTest() {
    }

    public static void main(String[] args) {
        newObject();
        append();
        bytesInOrder();
        load();
        loadReplacesAll();
        failedLoadChangesNothing();
        lengths();
        tokens();
        bounds();
        limits();
        errorOfTheLatestCall();
        Due.end("InputTest");
    }

    private static void newObject() {
        CaptionAlbum x = new CaptionAlbum();
        Due.is("NONE", CaptionAlbum.NONE, -1);
        Due.is("buffered()", x.buffered(), 0);
        Due.is("photos()", x.photos(), 0);
        Due.is("names()", x.names(), 0);
        Due.is("undoable()", x.undoable(), 0);
        Due.is("parseError()", x.parseError(), 0);
        Due.is("errorPosition()", x.errorPosition(), -1);
        Due.index("writtenByte(0)", () -> x.writtenByte(0));
        Due.state("people(0)", () -> x.people(0));
    }

    private static void append() {
        CaptionAlbum x = new CaptionAlbum();
        for (int i = 1; i <= 60; i++) {
            Due.is("append " + i, x.append(i, i, i, i, i), 20 * i);
        }
        Due.is("append 61", x.append(0, 0, 0, 0, 0), -1);
        Due.is("buffered() when full", x.buffered(), 1200);
        Due.index("load(1201)", () -> x.load(1201));
        Due.is("buffered() after load(1201)", x.buffered(), 1200);
        Due.argument("load(1200)", () -> x.load(1200));
        Due.is("buffered() after load", x.buffered(), 0);
        Due.is("append after load", x.append(0, 0, 0, 0, 0), 20);
    }

    private static void bytesInOrder() {
        CaptionAlbum x = new CaptionAlbum();
        x.append(0x616c6275, 0x6d206761, 0x7020313b, 0x70686f74, 0x6f203130);
        x.append(0x20313020, 0x80000000, 0xffffffff, 0, 0);
        Due.is("load(23)", x.load(23), 1);
        Due.loadFails(SMALL + (char) 0x80, 1, 23);
        Due.loadFails(SMALL + (char) 0xff, 1, 23);
        Due.loadFails(SMALL + (char) 0xe1, 1, 23);
    }

    private static void load() {
        CaptionAlbum x = new CaptionAlbum();
        String text = "album gap 7;photo 20 30;name ann lee;photo 999 1;person 1 998 0;name bo li";
        Due.is("load", Due.load(x, text), 2);
        Due.is("photos()", x.photos(), 2);
        Due.is("names()", x.names(), 2);
        Due.is("people(0)", x.people(0), 0);
        Due.is("people(1)", x.people(1), 1);
        Due.is("frame(0, 2)", x.frame(0, 2), 19);
        Due.is("frame(0, 3)", x.frame(0, 3), 29);
        Due.is("shownAt(1, 0)", x.shownAt(1, 0), 998000);
        Due.is("nameOf(1, 0)", x.nameOf(1, 0), -1);
        Due.feed(x, SMALL + " what stands behind is not parsed");
        Due.is("load of the first bytes", x.load(23), 1);
        Due.is("buffered()", x.buffered(), 0);
    }

    private static void loadReplacesAll() {
        CaptionAlbum x = Due.album(SMALL + ";name a b;person 0 5 5");
        x.giveName(0, 0, 0);
        x.crop(0, 5, 5, 5, 5);
        x.flip(0);
        x.retouch(0, 0, true);
        x.save(0);
        x.save(1);
        int written = x.write(0);
        Due.is("load", Due.load(x, SMALL + ";name a b;person 0 5 5"), 1);
        Due.is("nameOf(0, 0)", x.nameOf(0, 0), -1);
        Due.is("shownAt(0, 0)", x.shownAt(0, 0), 5005);
        Due.is("isFlipped(0)", x.isFlipped(0), false);
        Due.is("undoable()", x.undoable(), 0);
        Due.state("undo()", () -> x.undo());
        Due.state("restore(0)", () -> x.restore(0));
        Due.state("restore(1)", () -> x.restore(1));
        Due.load(x, SMALL);
        Due.is("the latest names()", x.names(), 0);
        Due.is("the latest photos()", x.photos(), 1);
        Due.is("the latest people(0)", x.people(0), 0);
        Due.is("the text stays", x.writtenByte(written - 1), (int) 'y');
    }

    private static void failedLoadChangesNothing() {
        CaptionAlbum x = Due.album("album gap 2;photo 10 10;name a b;person 0 5 5;person 0 5 3");
        x.giveName(0, 0, 0);
        x.save(0);
        String longer = "album gap 0;photo 20 20;photo 30 30;name c d;name e f;person 0 1 1 1";
        Due.argument("load", () -> Due.load(x, longer));
        Due.is("parseError()", x.parseError(), 1);
        Due.is("photos()", x.photos(), 1);
        Due.is("names()", x.names(), 1);
        Due.is("frame(0, 2)", x.frame(0, 2), 9);
        Due.is("rows(0)", x.rows(0), 1);
        Due.is("nameOf(0, 0)", x.nameOf(0, 0), 0);
        Due.is("undoable()", x.undoable(), 1);
        Due.is("restore(0)", x.restore(0), 2);
    }

    private static void lengths() {
        CaptionAlbum x = new CaptionAlbum();
        x.append(0, 0, 0, 0, 0);
        Due.index("load(-1)", () -> x.load(-1));
        Due.index("load(21)", () -> x.load(21));
        Due.index("load(min)", () -> x.load(Integer.MIN_VALUE));
        Due.index("load(max)", () -> x.load(Integer.MAX_VALUE));
        Due.is("buffered()", x.buffered(), 20);
        Due.is("parseError()", x.parseError(), 0);
        Due.argument("load(20)", () -> x.load(20));
        Due.index("load(1)", () -> x.load(1));
        Due.is("parseError() stays", x.parseError(), 1);
        Due.is("errorPosition() stays", x.errorPosition(), 0);
    }

    private static void tokens() {
        Due.loadFails("", 1, 0);
        Due.loadFails("    ", 1, 4);
        Due.loadFails("gap", 1, 0);
        Due.loadFails("blbum gap 1;photo 10 10", 1, 0);
        Due.loadFails("album tap 1;photo 10 10", 1, 6);
        Due.loadFails("album gap 1;ohoto 10 10", 1, 12);
        Due.loadFails("album gap 1;photos 10 10;", 1, 12);
        Due.loadFails(SMALL + ";same a b", 1, 24);
        Due.loadFails(SMALL + ";parson 0 1 1", 1, 24);
        Due.loadFails("album", 1, 5);
        Due.loadFails("  albums gap 1", 1, 2);
        Due.loadFails("album gap", 1, 9);
        Due.loadFails("album gap  ", 1, 11);
        Due.loadFails("album gap x", 1, 10);
        Due.loadFails("album gap 1 1", 1, 12);
        Due.loadFails("album gap 1;", 1, 12);
        Due.loadFails("album gap 1;;", 1, 12);
        Due.loadFails("album gap 1,photo 10 10", 1, 11);
        Due.loadFails("album gap 1;row 10 10", 1, 12);
        Due.loadFails("album gap 1;photos 10 10", 1, 12);
        Due.loadFails("album gap 1;phot 10 10", 1, 12);
        Due.loadFails("album gap 1;Photo 10 10", 1, 12);
        Due.loadFails("album gap 1;photo 10", 1, 20);
        Due.loadFails("album\tgap 1;photo 10 10", 1, 5);
        Due.loadFails(SMALL + ".", 1, 23);
        Due.loadFails(SMALL + ";", 1, 24);
        Due.loadFails(SMALL + ";person 0 1", 1, 34);
        Due.loadFails(SMALL + ";name a", 1, 30);
        Due.loadFails(SMALL + ";name 1 b", 1, 29);
        Due.loadFails(SMALL + ";name a;", 1, 30);
        Due.loadFails(SMALL + ";name abcdefghi b", 1, 29);
        Due.loadFails(SMALL + ";name a abcdefghi", 1, 31);
        String[] reserved = {
            "and", "someone", "left", "right", "row", "all", "at", "beside", "between"};
        for (String word : reserved) {
            Due.loadFails(SMALL + ";name " + word + " b", 1, 29);
            Due.loadFails(SMALL + ";name a " + word, 1, 31);
        }
        String free = ";name album gap;name name photo;name person rows;name abcdefgh zyxwvuts";
        Due.is("free words", Due.album(SMALL + free).names(), 4);
        Due.is("no blanks", Due.album("album gap1;photo10 0010;person0 1 1").people(0), 1);
        Due.is("blanks", Due.album("  album   gap 1  ; photo 10  10  ").photos(), 1);
        Due.loadFails("albumgap 1;photo 10 10", 1, 0);
    }

    private static void bounds() {
        Due.is("gap 0", Due.album("album gap 0;photo 1 1").photos(), 1);
        Due.is("gap 99", Due.album("album gap 0099;photo 999 999").photos(), 1);
        Due.loadFails("album gap 100;photo 1 1", 2, 10);
        Due.loadFails("album gap 9999", 2, 10);
        Due.loadFails("album gap 00000", 1, 10);
        Due.loadFails("album gap 1;photo 0 1", 2, 18);
        Due.loadFails("album gap 1;photo 1 0", 2, 20);
        Due.loadFails("album gap 1;photo 1000 1", 2, 18);
        Due.loadFails("album gap 1;photo 1 1000", 2, 20);
        Due.loadFails("album gap 1;photo 10000 1", 1, 18);
        Due.loadFails("album gap 1;person 0 0 0", 2, 19);
        Due.loadFails(SMALL + ";person 1 0 0;photo 9 9", 2, 31);
        Due.loadFails(SMALL + ";person 0 10 0", 2, 33);
        Due.loadFails("album gap 1;photo 11 10;person 0 10 10", 2, 36);
        Due.is("corner", Due.album(SMALL + ";person 0 9 9").shownAt(0, 0), 9009);
    }

    private static void limits() {
        StringBuilder names = new StringBuilder(SMALL);
        for (char c = 'a'; c < 'a' + 20; c++) {
            names.append(";name ").append(c).append(" b");
        }
        Due.is("20 names", Due.album(names.toString()).names(), 20);
        Due.loadFails(names + ";name", 4, names.length() + 1);
        Due.loadFails(names + ";name a b", 4, names.length() + 1);
        Due.loadFails(names + ";names", 1, names.length() + 1);
        Due.loadFails(SMALL + ";name a b;name b a;name a b", 3, 49);
        Due.loadFails(SMALL + ";name a and;name a and", 1, 31);
        String photos = "album gap 1" + ";photo 9 9".repeat(5);
        Due.is("5 photos", Due.album(photos).photos(), 5);
        Due.loadFails(photos + ";photo", 4, photos.length() + 1);
        String people = SMALL + ";photo 5 5" + ";person 0 1 1".repeat(12);
        Due.is("12 people", Due.album(people + ";person 1 1 1").people(0), 12);
        Due.loadFails(people + ";person 0", 4, people.length() + 8);
        Due.loadFails(people + ";person 2", 2, people.length() + 8);
        Due.loadFails("album gap 1", 5, 11);
        Due.loadFails("album gap 1;name a b  ", 5, 22);
        Due.loadFails("album gap 1;name a", 1, 18);
    }

    private static void errorOfTheLatestCall() {
        CaptionAlbum x = new CaptionAlbum();
        Due.argument("load", () -> Due.load(x, "album gap 1"));
        Due.is("parseError()", x.parseError(), 5);
        Due.is("errorPosition()", x.errorPosition(), 11);
        Due.state("phrases(0, 0)", () -> x.phrases(0, 0));
        Due.is("parseError() stays", x.parseError(), 5);
        Due.load(x, SMALL + ";name a b;person 0 0 0");
        Due.is("parseError() after load", x.parseError(), 0);
        Due.is("errorPosition() after load", x.errorPosition(), -1);
        Due.phrasesFail(x, 0, "all left b b", 6, 11);
        Due.index("phrases(1, 0)", () -> x.phrases(1, 0));
        Due.index("phrases(0, 1)", () -> x.phrases(0, 1));
        Due.index("phrases(0, -1)", () -> x.phrases(0, -1));
        Due.is("errorPosition() stays", x.errorPosition(), 11);
        Due.phrases(x, 0, "all left a b");
        Due.is("parseError() after phrases", x.parseError(), 0);
        Due.is("errorPosition() after phrases", x.errorPosition(), -1);
    }
}
