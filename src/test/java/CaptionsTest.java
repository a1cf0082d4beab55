/** Promises 39 to 41: written captions (section 5). */
public final class CaptionsTest {
    private static final String ALBUM = "album gap 5;name ann lee;name bob lee;name cy fox;"
            + "name abcdefgh zyxwvuts;photo 99 99;person 0 10 50;person 0 20 50;person 0 30 50;"
            + "person 0 40 50;person 0 50 10;photo 99 99;person 1 1 1;person 1 2 1;person 1 3 1;"
            + "photo 9 9";

    private CaptionsTest() {
    }

    public static void main(String[] args) {
        caption();
        twelveRows();
        change();
        writtenBytes();
        exceptions();
        Due.end("CaptionsTest");
    }

    private static void caption() {
        CaptionAlbum x = Due.album(ALBUM);
        Due.is("nobody named", Due.caption(x, 0), "row 0: 4 others; row 1: someone");
        Due.is("nobody", Due.caption(x, 2), "nobody");
        x.giveName(0, 1, 0);
        x.giveName(0, 2, 1);
        Due.is("one item", Due.caption(x, 0),
                "row 0: someone, ann and bob lee, someone; row 1: someone");
        x.giveName(0, 0, 2);
        x.giveName(0, 4, 3);
        Due.is("items", Due.caption(x, 0),
                "row 0: cy fox, ann and bob lee, someone; row 1: abcdefgh zyxwvuts");
        x.flip(0);
        Due.is("flipped", Due.caption(x, 0),
                "row 0: someone, bob and ann lee, cy fox; row 1: abcdefgh zyxwvuts");
        x.giveName(0, 2, -1);
        x.giveName(0, 0, 1);
        Due.is("others", Due.caption(x, 0),
                "row 0: 2 others, ann and bob lee; row 1: abcdefgh zyxwvuts");
        x.giveName(0, 2, 1);
        x.giveName(0, 1, -1);
        x.giveName(0, 0, 0);
        Due.is("one LAST, but not behind one another", Due.caption(x, 0),
                "row 0: someone, bob lee, someone, ann lee; row 1: abcdefgh zyxwvuts");
        x.crop(0, 0, 0, 99 - 1, 20);
        Due.is("cropped", Due.caption(x, 0), "row 0: abcdefgh zyxwvuts");
        x.retouch(0, 4, true);
        Due.is("retouched", Due.caption(x, 0), "nobody");
    }

    private static void twelveRows() {
        StringBuilder text = new StringBuilder("album gap 0;photo 20 20");
        StringBuilder due = new StringBuilder();
        for (int i = 0; i < 12; i++) {
            text.append(";name abcdefg").append((char) ('a' + i)).append(" abcdefgh");
            text.append(";person 0 ").append(i).append(' ').append(19 - i);
            due.append(i > 0 ? "; " : "").append("row ").append(i).append(": abcdefg");
            due.append((char) ('a' + i)).append(" abcdefgh");
        }
        CaptionAlbum x = Due.album(text.toString());
        for (int i = 0; i < 12; i++) {
            x.giveName(0, i, i);
        }
        Due.is("twelve rows", Due.caption(x, 0), due.toString());
    }

    private static void change() {
        CaptionAlbum x = Due.album(ALBUM);
        Due.is("no names", Due.change(x, 1), "as before");
        x.giveName(1, 0, 2);
        x.giveName(1, 1, 0);
        Due.is("with", Due.change(x, 1), "with ann lee, cy fox");
        Due.is("without", Due.change(x, 2), "without ann lee, cy fox");
        x.giveName(0, 0, 3);
        x.giveName(0, 1, 1);
        x.giveName(0, 2, 2);
        Due.is("both", Due.change(x, 1), "with ann lee; without bob lee, abcdefgh zyxwvuts");
        x.giveName(1, 1, -1);
        Due.is("without some", Due.change(x, 1), "without bob lee, abcdefgh zyxwvuts");
        x.retouch(0, 1, true);
        x.retouch(0, 0, true);
        Due.is("the same", Due.change(x, 1), "as before");
        x.retouch(1, 0, true);
        Due.is("retouched", Due.change(x, 1), "without cy fox");
        x.crop(0, 0, 0, 0, 0);
        Due.is("cropped", Due.change(x, 1), "as before");
    }

    private static void writtenBytes() {
        CaptionAlbum x = Due.album(ALBUM);
        Due.index("before the first text", () -> x.writtenByte(0));
        Due.is("write(0)", x.write(0), 31);
        Due.is("byte 0", x.writtenByte(0), (int) 'r');
        Due.is("byte 30", x.writtenByte(30), (int) 'e');
        Due.is("write(2)", x.write(2), 6);
        Due.index("byte 6", () -> x.writtenByte(6));
        Due.index("byte -1", () -> x.writtenByte(-1));
        Due.index("byte max", () -> x.writtenByte(Integer.MAX_VALUE));
        Due.is("writeChange(2)", x.writeChange(2), 9);
        Due.is("byte 8", x.writtenByte(8), (int) 'e');
        Due.index("writeChange(0)", () -> x.writeChange(0));
        Due.index("write(3)", () -> x.write(3));
        x.giveName(0, 0, 0);
        x.undo();
        Due.is("the text stays", x.writtenByte(0), (int) 'a');
        Due.is("nothing to undo", x.undoable(), 0);
    }

    private static void exceptions() {
        CaptionAlbum x = new CaptionAlbum();
        Due.state("write(-1)", () -> x.write(-1));
        Due.state("writeChange(0)", () -> x.writeChange(0));
        Due.index("writtenByte(0)", () -> x.writtenByte(0));
        CaptionAlbum y = Due.album(ALBUM);
        int[] photos = {-1, 3, Integer.MAX_VALUE, Integer.MIN_VALUE};
        for (int photo : photos) {
            Due.index("write", () -> y.write(photo));
            Due.index("writeChange", () -> y.writeChange(photo));
        }
    }
}
