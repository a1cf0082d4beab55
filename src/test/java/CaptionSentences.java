/** Promises 39 to 41, and section 5. */
final class CaptionSentences {
    /** Photo 0 has a row of four from the left and one behind; photo 2 has nobody. */
    private static final String ALBUM = "album gap 5;name ann lee;name bob lee;name cy fox;"
            + "name abcdefgh zyxwvuts;photo 99 99;person 0 10 50;person 0 20 50;person 0 30 50;"
            + "person 0 40 50;person 0 50 10;photo 99 99;person 1 1 1;person 1 2 1;person 1 3 1;"
            + "photo 9 9";

    private CaptionSentences() {
    }

    static void tell(Sentences s) {
        parts(s);
        items(s);
        longest(s);
        changeLists(s);
        changes(s);
        lengths(s);
        writtenBytes(s);
    }

    private static CaptionAlbum named(int... names) {
        CaptionAlbum x = Due.album(ALBUM);
        for (int person = 0; person < names.length; person++) {
            x.giveName(0, person, names[person]);
        }
        return x;
    }

    private static void parts(Sentences s) {
        s.section(5, "A caption consists of one part for each row, from the front, separated by \"; \".",
                () -> {
            CaptionAlbum x = named(-1, -1, -1, -1, 2);
            Due.is("two rows", Due.caption(x, 0), "row 0: 4 others; row 1: cy fox");
            Due.is("one row", Due.caption(x, 1), "row 0: 3 others");
            x.crop(0, 0, 0, 98, 20);
            Due.is("the row that is left", Due.caption(x, 0), "row 0: cy fox");
            CaptionAlbum y = Due.album("album gap 0;photo 9 9;person 0 1 1;person 0 1 2;person 0 1 3");
            Due.is("three rows", Due.caption(y, 0), "row 0: someone; row 1: someone; row 2: someone");
        });
        s.section(5, "A part is \"row \", the number of the row, \": \", and the items for its people from "
                + "the left, separated by \", \".", () -> {
            CaptionAlbum x = named(0, 2, 1, 3);
            Due.is("from the left", Due.caption(x, 0),
                    "row 0: ann lee, cy fox, bob lee, abcdefgh zyxwvuts; row 1: someone");
            x.flip(0);
            Due.is("flipped", Due.caption(x, 0),
                    "row 0: abcdefgh zyxwvuts, bob lee, cy fox, ann lee; row 1: someone");
        });
        s.section(5, "The caption of a picture without people is \"nobody\".", () -> {
            CaptionAlbum x = named(0, 1);
            Due.is("no people", Due.caption(x, 2), "nobody");
            x.crop(0, 0, 0, 9, 9);
            Due.is("all outside", Due.caption(x, 0), "nobody");
            x.retouch(1, 0, true);
            x.retouch(1, 1, true);
            Due.is("one left", Due.caption(x, 1), "row 0: someone");
            x.retouch(1, 2, true);
            Due.is("all away", Due.caption(x, 1), "nobody");
        });
    }

    private static void items(Sentences s) {
        s.section(5, "People that follow one another and have names with the same LAST form one item: "
                + "their FIRST, separated by \" and \", a blank and LAST.", () -> {
            Due.is("two", Due.caption(named(0, 1), 0),
                    "row 0: ann and bob lee, 2 others; row 1: someone");
            Due.is("someone between", Due.caption(named(0, -1, 1), 0),
                    "row 0: ann lee, someone, bob lee, someone; row 1: someone");
            Due.is("another LAST between", Due.caption(named(0, 2, 1), 0),
                    "row 0: ann lee, cy fox, bob lee, someone; row 1: someone");
            Due.is("in another row", Due.caption(named(-1, -1, -1, 0, 1), 0),
                    "row 0: 3 others, ann lee; row 1: bob lee");
            CaptionAlbum x = Due.album("album gap 0;name a fox;name b foxes;name fox a;name c fo;"
                    + "photo 9 9;person 0 1 1;person 0 2 1;person 0 3 1;person 0 4 1");
            for (int person = 0; person < 4; person++) {
                x.giveName(0, person, person);
            }
            Due.is("LAST that are not the same", Due.caption(x, 0), "row 0: a fox, b foxes, fox a, c fo");
        });
        s.section(5, "People without names that follow one another form one item: \"someone\" if it is "
                + "one, otherwise their number and \" others\".", () -> {
            Due.is("one", Due.caption(named(0, 1, 2), 0),
                    "row 0: ann and bob lee, cy fox, someone; row 1: someone");
            Due.is("two", Due.caption(named(0, 1), 0),
                    "row 0: ann and bob lee, 2 others; row 1: someone");
            Due.is("one and one", Due.caption(named(-1, 0, -1, 1), 0),
                    "row 0: someone, ann lee, someone, bob lee; row 1: someone");
            Due.is("one and two", Due.caption(named(-1, 0, -1, -1, 2), 0),
                    "row 0: someone, ann lee, 2 others; row 1: cy fox");
            Due.is("not across rows", Due.caption(named(0, 1, 2, -1, -1), 0),
                    "row 0: ann and bob lee, cy fox, someone; row 1: someone");
            CaptionAlbum x = Due.album("album gap 0;photo 9 9" + ";person 0 1 1".repeat(12));
            Due.is("twelve", Due.caption(x, 0), "row 0: 12 others");
            x.retouch(0, 0, true);
            x.retouch(0, 1, true);
            Due.is("ten", Due.caption(x, 0), "row 0: 10 others");
        });
    }

    private static void longest(Sentences s) {
        s.promise(39, "Returns the number of bytes of the text.", () -> {
            StringBuilder text = new StringBuilder("album gap 0;photo 20 20");
            StringBuilder due = new StringBuilder();
            for (int i = 0; i < 12; i++) {
                char letter = (char) ('a' + i);
                text.append(";name abcdefg").append(letter).append(" abcdefgh");
                text.append(";person 0 ").append(i).append(' ').append(19 - i);
                due.append(i > 0 ? "; row " : "row ").append(i).append(": abcdefg").append(letter);
                due.append(" abcdefgh");
            }
            CaptionAlbum x = Due.album(text.toString());
            for (int i = 0; i < 12; i++) {
                x.giveName(0, i, i);
            }
            Due.is("the longest", x.write(0), due.length());
            Due.is("twelve rows", Due.caption(x, 0), due.toString());
            Due.is("nobody", Due.album(ALBUM).write(2), 6);
        });
    }

    private static void changeLists(Sentences s) {
        s.section(5, "The change caption of a photo compares the names in its picture with those in the "
                + "picture of the photo before (the one with the next smaller number): \"with \" and the "
                + "names that are only in the picture of this photo, or \"without \" and the names that "
                + "are only in that of the one before;", () -> {
            CaptionAlbum x = named(-1, 0);
            Due.is("without", Due.change(x, 1), "without ann lee");
            Due.is("the photo before alone", Due.change(x, 2), "as before");
            x.giveName(1, 2, 0);
            Due.is("in both", Due.change(x, 1), "as before");
            x.giveName(0, 1, -1);
            Due.is("with", Due.change(x, 1), "with ann lee");
            x.retouch(1, 2, true);
            Due.is("who is away", Due.change(x, 1), "as before");
            x.giveName(0, 1, 3);
            x.crop(0, 0, 0, 19, 98);
            Due.is("who is outside", Due.change(x, 1), "as before");
        });
        s.section(5, "each list by the numbers of the names, each name as FIRST, a blank and LAST, separated "
                + "by \", \".", () -> {
            CaptionAlbum x = named(3, 1, 0, 2);
            Due.is("without", Due.change(x, 1),
                    "without ann lee, bob lee, cy fox, abcdefgh zyxwvuts");
            CaptionAlbum y = Due.album(ALBUM);
            y.giveName(1, 0, 2);
            y.giveName(1, 1, 1);
            y.giveName(1, 2, 0);
            Due.is("with", Due.change(y, 1), "with ann lee, bob lee, cy fox");
        });
        s.section(5, "If both lists are not empty, they are separated by \"; \";", () -> {
            CaptionAlbum x = named(3, 1, 2);
            x.giveName(1, 0, 2);
            x.giveName(1, 1, 0);
            Due.is("one and two", Due.change(x, 1),
                    "with ann lee; without bob lee, abcdefgh zyxwvuts");
            x.giveName(1, 2, 1);
            Due.is("two and one", Due.change(x, 1), "with ann lee; without abcdefgh zyxwvuts");
            x.giveName(1, 2, 3);
            x.giveName(0, 1, -1);
            Due.is("with alone", Due.change(x, 1), "with ann lee");
            x.giveName(1, 1, -1);
            x.giveName(0, 1, 1);
            Due.is("without alone", Due.change(x, 1), "without bob lee");
        });
        s.section(5, "if both are empty, it is \"as before\".", () -> {
            CaptionAlbum x = named(0, 1);
            Due.is("no names", Due.change(x, 2), "as before");
            x.giveName(1, 2, 0);
            x.giveName(1, 0, 1);
            Due.is("the same names", Due.change(x, 1), "as before");
        });
    }

    private static void changes(Sentences s) {
        s.promise(40, "Returns the number of bytes of the text.", () -> {
            StringBuilder text = new StringBuilder("album gap 0;photo 9 9;photo 9 9");
            for (int i = 0; i < 20; i++) {
                text.append(";name ").append((char) ('a' + i)).append("bcdefgh zyxwvuts");
            }
            text.append(";person 0 1 1".repeat(12)).append(";person 1 1 1".repeat(12));
            CaptionAlbum x = Due.album(text.toString());
            for (int i = 0; i < 12; i++) {
                x.giveName(0, i, i);
                x.giveName(1, i, 8 + i);
            }
            // "with ", "; without ", 16 names of 17 bytes, and ", " 14 times.
            Due.is("the longest", x.writeChange(1), 5 + 10 + 16 * 17 + 14 * 2);
            for (int i = 0; i < 12; i++) {
                x.giveName(0, i, -1);
            }
            Due.is("twelve names", x.writeChange(1), 5 + 12 * 17 + 11 * 2);
            Due.is("the last byte", x.writtenByte(5 + 12 * 17 + 11 * 2 - 1), (int) 's');
            Due.is("as before", Due.album(ALBUM).writeChange(1), 9);
        });
        s.promise(40, "Throws `IndexOutOfBoundsException` if there is no such photo, or it is photo 0", () -> {
            CaptionAlbum x = Due.album(ALBUM);
            int[] wrong = {0, -1, 3, 5, Integer.MIN_VALUE, Integer.MAX_VALUE};
            for (int photo : wrong) {
                Due.index("writeChange(photo)", () -> x.writeChange(photo));
            }
            Due.is("photo 1", x.writeChange(1), 9);
            Due.is("the last photo", x.writeChange(2), 9);
            Due.index("the only photo", () -> Due.album("album gap 1;photo 1 1").writeChange(0));
        });
    }

    private static void lengths(Sentences s) {
        s.promise(39, "Writes the caption of a picture (section 5), which replaces the text that was written "
                + "before.", () -> {
            CaptionAlbum x = Due.album(ALBUM);
            Due.is("the longer one", x.write(0), 31);
            Due.is("the shorter one", x.write(2), 6);
            Due.is("its first byte", x.writtenByte(0), (int) 'n');
            Due.index("behind it", () -> x.writtenByte(6));
            Due.is("a change caption", x.writeChange(1), 9);
            Due.is("nobody", Due.caption(x, 2), "nobody");
        });
        s.promise(40, "Writes the change caption of a photo (section 5), which replaces the text that was "
                + "written before.", () -> {
            CaptionAlbum x = Due.album(ALBUM);
            x.write(0);
            Due.is("as before", Due.change(x, 2), "as before");
            Due.index("writeChange(0)", () -> x.writeChange(0));
            Due.is("it stays then", x.writtenByte(8), (int) 'e');
        });
    }

    private static void writtenBytes(Sentences s) {
        s.promise(41, "`i`: index of the byte, from 0", () -> {
            CaptionAlbum x = Due.album(ALBUM);
            x.write(2);
            String nobody = "nobody";
            for (int i = 0; i < 6; i++) {
                Due.is("byte " + i, x.writtenByte(i), (int) nobody.charAt(i));
            }
        });
        s.promise(41, "Returns a byte of the text that was written last.", () -> {
            CaptionAlbum x = Due.album(ALBUM);
            x.write(2);
            Due.index("write(3)", () -> x.write(3));
            Due.is("a call that throws writes nothing", x.writtenByte(0), (int) 'n');
            x.flip(0);
            x.undo();
            Due.is("undo leaves the text", x.writtenByte(5), (int) 'y');
        });
        s.promise(41, "Returns the byte.", () -> {
            CaptionAlbum x = Due.album(ALBUM);
            x.write(0);
            Due.is("r", x.writtenByte(0), 114);
            Due.is("a blank", x.writtenByte(3), 32);
            Due.is("0", x.writtenByte(4), 48);
            Due.is(":", x.writtenByte(5), 58);
        });
        s.promise(41, "Throws `IndexOutOfBoundsException` if there is no such byte (always, before the first "
                + "text)", () -> {
            int[] any = {0, 1, -1, 15, Integer.MIN_VALUE, Integer.MAX_VALUE};
            CaptionAlbum x = new CaptionAlbum();
            for (int i : any) {
                Due.index("no album", () -> x.writtenByte(i));
            }
            Due.load(x, ALBUM);
            for (int i : any) {
                Due.index("no text", () -> x.writtenByte(i));
            }
            x.write(2);
            int[] wrong = {6, -1, 7, Integer.MIN_VALUE, Integer.MAX_VALUE};
            for (int i : wrong) {
                Due.index("no such byte", () -> x.writtenByte(i));
            }
        });
    }
}
