/** Promises 42 to 52: changes, undo, and saved states (sections 1, 3 and 7). */
public final class ChangesTest {
    private static final String ALBUM = "album gap 10;name ann lee;name bob lee;name cy fox;"
            + "photo 100 80;person 0 10 60;person 0 50 62;person 0 30 20;person 0 90 55;"
            + "photo 50 50;person 1 10 40;person 1 40 42;person 1 5 5;person 1 9 5;photo 9 9";

    private ChangesTest() {
    }

    public static void main(String[] args) {
        crop();
        flip();
        uncrop();
        retouch();
        addPerson();
        fullPhoto();
        giveName();
        copyNames();
        undo();
        undoOfEach();
        sixChanges();
        saveAndRestore();
        withoutAlbum();
        wrongNumbers();
        Due.end("ChangesTest");
    }

    private static String frame(CaptionAlbum x, int photo) {
        return Due.frame(x, photo);
    }

    private static void crop() {
        CaptionAlbum x = Due.album(ALBUM);
        Due.is("nobody goes", x.crop(0, 5, 6, 98, 78), 0);
        Due.is("frame", frame(x, 0), "5 6 98 78");
        Due.is("two go", x.crop(0, 20, 7, 84, 70), 2);
        Due.is("frame again", frame(x, 0), "25 13 89 76");
        Due.is("inPicture(0)", x.inPicture(0), 6);
        x.flip(0);
        Due.is("flipped", x.crop(0, 0, 0, 50, 63), 1);
        Due.is("frame, flipped", frame(x, 0), "39 13 89 76");
        Due.is("shownAt(0, 1)", x.shownAt(0, 1), 39049);
        Due.is("both ends", x.crop(0, 10, 49, 39, 49), 0);
        Due.is("frame, both ends", frame(x, 0), "50 62 79 62");
        Due.is("one point", x.crop(0, 29, 0, 29, 0), 0);
        Due.is("shownAt(0, 1), one point", x.shownAt(0, 1), 0);
        Due.is("the other photo", frame(x, 1), "0 0 49 49");
        Due.argument("x2", () -> x.crop(0, 0, 0, 1, 0));
        Due.argument("y2", () -> x.crop(0, 0, 0, 0, 1));
        Due.argument("x1", () -> x.crop(1, -1, 0, 0, 0));
        Due.argument("y1", () -> x.crop(1, 0, -1, 0, 0));
        Due.argument("x2 < x1", () -> x.crop(1, 2, 0, 1, 0));
        Due.argument("y2 < y1", () -> x.crop(1, 0, 2, 0, 1));
        Due.index("crop(3, -1, ..)", () -> x.crop(3, -1, 0, 0, 0));
        Due.is("undoable()", x.undoable(), 6);
    }

    private static void flip() {
        CaptionAlbum x = Due.album(ALBUM);
        Due.is("flip(0)", x.flip(0), true);
        Due.is("shownAt(0, 0)", x.shownAt(0, 0), 89060);
        Due.is("isFlipped(1)", x.isFlipped(1), false);
        Due.is("flip(0) back", x.flip(0), false);
        Due.is("shownAt(0, 0) back", x.shownAt(0, 0), 10060);
        Due.is("undoable()", x.undoable(), 2);
    }

    private static void uncrop() {
        CaptionAlbum x = Due.album(ALBUM);
        x.crop(0, 0, 30, 40, 70);
        x.retouch(0, 3, true);
        x.flip(0);
        Due.is("uncrop(0)", x.uncrop(0), 2);
        Due.is("frame", frame(x, 0), "0 0 99 79");
        Due.is("isFlipped(0)", x.isFlipped(0), true);
        Due.is("isIn(0, 3)", x.isIn(0, 3), false);
        Due.is("again", x.uncrop(0), 0);
        Due.is("undoable()", x.undoable(), 5);
    }

    private static void retouch() {
        CaptionAlbum x = Due.album(ALBUM);
        x.giveName(0, 1, 2);
        Due.is("away", x.retouch(0, 1, true), false);
        Due.is("away again", x.retouch(0, 1, true), true);
        Due.is("isIn(0, 1)", x.isIn(0, 1), false);
        Due.is("isIn(1, 1)", x.isIn(1, 1), true);
        Due.is("back", x.retouch(0, 1, false), true);
        Due.is("back again", x.retouch(0, 1, false), false);
        Due.is("isIn(0, 1), back", x.isIn(0, 1), true);
        Due.is("nameOf(0, 1)", x.nameOf(0, 1), 2);
        Due.is("undoable()", x.undoable(), 5);
    }

    private static void addPerson() {
        CaptionAlbum x = Due.album(ALBUM);
        x.crop(0, 20, 10, 60, 70);
        Due.is("addPerson", x.addPerson(0, 3, 4), 4);
        Due.is("shownAt(0, 4)", x.shownAt(0, 4), 3004);
        x.flip(0);
        Due.is("shownAt(0, 4), flipped", x.shownAt(0, 4), 37004);
        Due.is("addPerson, flipped", x.addPerson(0, 0, 60), 5);
        Due.is("shownAt(0, 5)", x.shownAt(0, 5), 60);
        Due.is("nameOf(0, 5)", x.nameOf(0, 5), -1);
        Due.is("addPerson, flipped, x 7", x.addPerson(0, 7, 0), 6);
        Due.is("shownAt(0, 6)", x.shownAt(0, 6), 7000);
        x.flip(0);
        x.uncrop(0);
        Due.is("shownAt(0, 5), whole", x.shownAt(0, 5), 60070);
        Due.is("shownAt(0, 6), whole", x.shownAt(0, 6), 53010);
        Due.is("people(0)", x.people(0), 7);
        Due.argument("x 50", () -> x.addPerson(1, 50, 0));
        Due.argument("y 50", () -> x.addPerson(1, 0, 50));
        Due.argument("x -1", () -> x.addPerson(1, -1, 0));
        Due.argument("y -1", () -> x.addPerson(1, 0, -1));
        Due.index("addPerson(3, -1, 0)", () -> x.addPerson(3, -1, 0));
        Due.is("the corner", x.addPerson(1, 49, 49), 4);
    }

    private static void fullPhoto() {
        CaptionAlbum x = Due.album(ALBUM);
        for (int person = 0; person < 12; person++) {
            Due.is("addPerson", x.addPerson(2, 1, 1), person);
        }
        Due.state("a 13th person", () -> x.addPerson(2, 1, 1));
        Due.state("a 13th person, out of range", () -> x.addPerson(2, -1, 1));
        Due.is("inPicture(2)", x.inPicture(2), 4095);
        Due.is("undoable()", x.undoable(), 6);
        x.retouch(2, 11, true);
        x.giveName(2, 11, 0);
        for (int i = 0; i < 3; i++) {
            x.undo();
        }
        Due.is("people(2), undone", x.people(2), 11);
        x.addPerson(2, 2, 2);
        Due.is("the new person is there", x.isIn(2, 11), true);
        Due.is("the new person has no name", x.nameOf(2, 11), -1);
    }

    private static void giveName() {
        CaptionAlbum x = Due.album(ALBUM);
        Due.is("the first", x.giveName(0, 1, 2), -1);
        Due.is("another", x.giveName(0, 1, 0), 2);
        Due.is("the same", x.giveName(0, 1, 0), 0);
        Due.is("nameOf(0, 1)", x.nameOf(0, 1), 0);
        Due.is("in another photo", x.giveName(1, 2, 0), -1);
        Due.is("from another person", x.giveName(0, 3, 0), -1);
        Due.is("names", Due.namesOf(x, 0), "- - - 0");
        Due.is("who(1, 0)", x.who(1, 0), 2);
        Due.is("taken", x.giveName(0, 3, -1), 0);
        Due.is("taken again", x.giveName(0, 3, -1), -1);
        Due.is("names, taken", Due.namesOf(x, 0), "- - - -");
        x.retouch(0, 0, true);
        x.giveName(0, 0, 1);
        x.giveName(0, 1, 1);
        Due.is("from a person who is away", Due.namesOf(x, 0), "- 1 - -");
        Due.is("undoable()", x.undoable(), 6);
        Due.index("name 3", () -> x.giveName(0, 0, 3));
        Due.index("name -2", () -> x.giveName(0, 0, -2));
        Due.index("person 4", () -> x.giveName(0, 4, 0));
        Due.index("person -1", () -> x.giveName(0, -1, 0));
    }

    private static void copyNames() {
        CaptionAlbum x = Due.album(ALBUM);
        // The rows of photo 0 are 0 1 3 and 2, those of photo 1 are 0 1 and 2 3.
        Due.is("no names", x.copyNames(1, 0), 0);
        Due.is("undoable()", x.undoable(), 1);
        x.giveName(0, 0, 2);
        x.giveName(0, 3, 0);
        x.giveName(0, 2, 1);
        x.giveName(1, 0, 1);
        x.giveName(1, 1, 0);
        Due.is("two places", x.copyNames(1, 0), 2);
        Due.is("names of 1", Due.namesOf(x, 1), "2 0 1 -");
        Due.is("names of 0", Due.namesOf(x, 0), "2 - 1 0");
        x.flip(0);
        Due.is("flipped", x.copyNames(1, 0), 2);
        Due.is("names of 1, flipped", Due.namesOf(x, 1), "0 - 1 -");
        Due.is("nobody", x.copyNames(2, 1), 0);
        x.copyNames(0, 1);
        Due.is("the other way", Due.namesOf(x, 0), "2 - 1 0");
        Due.argument("the same", () -> x.copyNames(1, 1));
        Due.index("no such photo", () -> x.copyNames(3, 3));
        Due.index("no such other", () -> x.copyNames(0, 3));
        Due.is("undoable()", x.undoable(), 6);
        x.undo();
        x.undo();
        Due.is("undo()", x.undo(), 3);
        Due.is("names of 1, undone", Due.namesOf(x, 1), "2 0 1 -");
    }

    private static void undo() {
        CaptionAlbum x = Due.album(ALBUM);
        Due.state("undo() of nothing", () -> x.undo());
        x.crop(0, 10, 10, 60, 60);
        x.flip(1);
        Due.is("undo()", x.undo(), 1);
        Due.is("isFlipped(1)", x.isFlipped(1), false);
        Due.is("frame", frame(x, 0), "10 10 60 60");
        Due.is("undo()", x.undo(), 0);
        Due.is("frame, undone", frame(x, 0), "0 0 99 79");
        Due.state("undo() of no more", () -> x.undo());
        Due.argument("crop", () -> x.crop(0, 5, 5, 4, 4));
        Due.index("flip", () -> x.flip(9));
        Due.is("a call that throws is no change", x.undoable(), 0);
    }

    private static void undoOfEach() {
        CaptionAlbum x = Due.album(ALBUM);
        x.crop(0, 20, 5, 80, 70);
        String before = x.inPicture(0) + frame(x, 0) + x.isFlipped(0) + Due.namesOf(x, 0);
        x.uncrop(0);
        x.retouch(0, 1, true);
        x.addPerson(0, 1, 1);
        x.giveName(0, 2, 1);
        Due.phrases(x, 0, "all left ann lee, bob lee");
        for (int left = 5; left > 0; left--) {
            Due.is("undo()", x.undo(), left);
        }
        String after = x.inPicture(0) + frame(x, 0) + x.isFlipped(0) + Due.namesOf(x, 0);
        Due.is("the state", after, before);
    }

    private static void sixChanges() {
        CaptionAlbum x = Due.album(ALBUM);
        for (int i = 0; i < 9; i++) {
            x.giveName(0, i % 4, i % 3);
            Due.is("undoable()", x.undoable(), Math.min(i + 1, 6));
        }
        // The names that the changes give, one a change: 0 1 2 0 1 2 0 1 2.
        Due.is("names", Due.namesOf(x, 0), "2 - 0 1");
        for (int left = 5; left >= 0; left--) {
            Due.is("undo()", x.undo(), left);
        }
        Due.is("names after three changes", Due.namesOf(x, 0), "0 1 2 -");
        Due.state("undo()", () -> x.undo());
        x.flip(0);
        Due.is("undoable()", x.undoable(), 1);
    }

    private static void saveAndRestore() {
        CaptionAlbum x = Due.album(ALBUM);
        Due.is("save(0)", x.save(0), 8);
        x.retouch(0, 1, true);
        x.giveName(1, 1, 2);
        x.addPerson(2, 3, 3);
        x.crop(1, 0, 0, 20, 20);
        Due.is("save(1)", x.save(1), 6);
        Due.is("undoable()", x.undoable(), 4);
        Due.is("restore(0)", x.restore(0), 8);
        Due.is("undoable(), restored", x.undoable(), 0);
        Due.is("people(2)", x.people(2), 0);
        Due.is("nameOf(1, 1)", x.nameOf(1, 1), -1);
        x.flip(0);
        Due.is("restore(1)", x.restore(1), 6);
        Due.is("isFlipped(0)", x.isFlipped(0), false);
        Due.is("nameOf(1, 1), restored", x.nameOf(1, 1), 2);
        Due.is("frame", frame(x, 1), "0 0 20 20");
        Due.is("it stays saved", x.restore(0), 8);
        x.retouch(0, 0, true);
        Due.is("in its place", x.save(0), 7);
        Due.is("restore(0) then", x.restore(0), 7);
        Due.index("save(2)", () -> x.save(2));
        Due.index("save(-1)", () -> x.save(-1));
        Due.index("restore(2)", () -> x.restore(2));
        Due.index("restore(-1)", () -> x.restore(-1));
        CaptionAlbum y = Due.album(ALBUM);
        y.save(1);
        Due.state("restore(0), nothing saved", () -> y.restore(0));
        Due.is("restore(1), no change", y.restore(1), 8);
    }

    private static void withoutAlbum() {
        CaptionAlbum x = new CaptionAlbum();
        Due.state("crop", () -> x.crop(-1, -1, 0, 0, 0));
        Due.state("flip", () -> x.flip(-1));
        Due.state("uncrop", () -> x.uncrop(-1));
        Due.state("retouch", () -> x.retouch(-1, 0, true));
        Due.state("addPerson", () -> x.addPerson(-1, 0, 0));
        Due.state("giveName", () -> x.giveName(-1, 0, 0));
        Due.state("copyNames", () -> x.copyNames(0, 0));
        Due.state("undo", () -> x.undo());
        Due.state("save", () -> x.save(2));
        Due.index("restore", () -> x.restore(2));
        Due.state("restore", () -> x.restore(0));
    }

    private static void wrongNumbers() {
        CaptionAlbum x = Due.album(ALBUM);
        int[] photos = {-1, 3, Integer.MAX_VALUE, Integer.MIN_VALUE};
        for (int photo : photos) {
            Due.index("crop", () -> x.crop(photo, 0, 0, 0, 0));
            Due.index("flip", () -> x.flip(photo));
            Due.index("uncrop", () -> x.uncrop(photo));
            Due.index("retouch", () -> x.retouch(photo, 0, true));
            Due.index("addPerson", () -> x.addPerson(photo, 0, 0));
            Due.index("giveName", () -> x.giveName(photo, 0, 0));
            Due.index("copyNames", () -> x.copyNames(photo, 0));
            Due.index("copyNames", () -> x.copyNames(0, photo));
        }
        int[] people = {-1, 4, Integer.MAX_VALUE, Integer.MIN_VALUE};
        for (int person : people) {
            Due.index("retouch", () -> x.retouch(0, person, false));
            Due.index("giveName", () -> x.giveName(0, person, 0));
            Due.index("save", () -> x.save(person));
            Due.index("restore", () -> x.restore(person));
        }
        Due.is("undoable()", x.undoable(), 0);
    }
}
