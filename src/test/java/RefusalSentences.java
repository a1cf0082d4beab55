import java.util.ArrayList;
import java.util.List;

/** What section 7 says of exceptions, and the exceptions that many methods have in common. */
final class RefusalSentences {
    private static final String ALBUM = "album gap 10;name ann lee;name bob lee;name cy fox;"
            + "photo 100 80;person 0 10 60;person 0 50 62;person 0 30 20;photo 50 50;person 1 10 40;"
            + "person 1 40 42;photo 9 9";
    private static final String NO_ALBUM = "Throws `IllegalStateException` if there is no album";
    private static final String NO_PHOTO = "Throws `IndexOutOfBoundsException` if there is no such photo";
    private static final int[] WRONG_PHOTOS = {-1, 3, 5, 20, Integer.MIN_VALUE, Integer.MAX_VALUE};

    private interface Call {
        Object on(CaptionAlbum x, int photo);
    }

    private record Method(int promise, String name, Call call) {
    }

    private record Refused(String kind, String name, Call call) {
    }

    private RefusalSentences() {
    }

    static void tell(Sentences s) {
        noAlbum(s);
        noPhoto(s);
        kindsOfExceptions(s);
        firstListed(s);
        nothingChanges(s);
        s.announces(6, "The grammar, with literals in quotes:");
        s.announces(7, "The constants:");
        s.announces(7, "The constructor and the methods follow, a promise each: the signature, then "
                + "what it does.");
    }

    /** The methods whose first argument is a photo, so that photos 0 to 1 are no mistake. */
    private static List<Method> ofPhoto() {
        List<Method> all = new ArrayList<>();
        all.add(new Method(9, "people", (x, p) -> x.people(p)));
        all.add(new Method(10, "frame", (x, p) -> x.frame(p, 0)));
        all.add(new Method(11, "isFlipped", (x, p) -> x.isFlipped(p)));
        all.add(new Method(12, "isIn", (x, p) -> x.isIn(p, 0)));
        all.add(new Method(13, "shownAt", (x, p) -> x.shownAt(p, 0)));
        all.add(new Method(14, "inPicture", (x, p) -> x.inPicture(p)));
        all.add(new Method(15, "rows", (x, p) -> x.rows(p)));
        all.add(new Method(16, "rowLength", (x, p) -> x.rowLength(p, 0)));
        all.add(new Method(17, "personAt", (x, p) -> x.personAt(p, 0, 0)));
        all.add(new Method(18, "rowOf", (x, p) -> x.rowOf(p, 0)));
        all.add(new Method(19, "placeOf", (x, p) -> x.placeOf(p, 0)));
        all.add(new Method(20, "inOrder", (x, p) -> x.inOrder(p, 0)));
        all.add(new Method(21, "nearest", (x, p) -> x.nearest(p, 0, 0, 0)));
        all.add(new Method(24, "nameOf", (x, p) -> x.nameOf(p, 0)));
        all.add(new Method(25, "who", (x, p) -> x.who(p, 0)));
        all.add(new Method(27, "unnamed", (x, p) -> x.unnamed(p)));
        all.add(new Method(29, "common", (x, p) -> x.common(p, 0)));
        all.add(new Method(29, "common, other", (x, p) -> x.common(0, p)));
        all.add(new Method(30, "inversions", (x, p) -> x.inversions(p, 0)));
        all.add(new Method(30, "inversions, other", (x, p) -> x.inversions(0, p)));
        all.add(new Method(31, "isMirrored", (x, p) -> x.isMirrored(p, 0)));
        all.add(new Method(31, "isMirrored, other", (x, p) -> x.isMirrored(0, p)));
        all.add(new Method(32, "groups", (x, p) -> x.groups(p, 0)));
        all.add(new Method(33, "linking", (x, p) -> x.linking(p)));
        all.add(new Method(34, "spacing", (x, p) -> x.spacing(p, 0)));
        all.add(new Method(35, "aspect", (x, p) -> x.aspect(p)));
        all.add(new Method(36, "keeps", (x, p) -> x.keeps(p, 0, 0, 0, 0)));
        all.add(new Method(37, "tightest", (x, p) -> x.tightest(p, 1, 0)));
        all.add(new Method(38, "window", (x, p) -> x.window(p, 1)));
        all.add(new Method(39, "write", (x, p) -> x.write(p)));
        addChanges(all);
        return all;
    }

    private static void addChanges(List<Method> all) {
        all.add(new Method(42, "crop", (x, p) -> x.crop(p, 0, 0, 0, 0)));
        all.add(new Method(43, "flip", (x, p) -> x.flip(p)));
        all.add(new Method(44, "uncrop", (x, p) -> x.uncrop(p)));
        all.add(new Method(45, "retouch", (x, p) -> x.retouch(p, 0, true)));
        all.add(new Method(46, "addPerson", (x, p) -> x.addPerson(p, 0, 0)));
        all.add(new Method(47, "giveName", (x, p) -> x.giveName(p, 0, 0)));
        all.add(new Method(48, "copyNames", (x, p) -> x.copyNames(p, 2)));
        all.add(new Method(48, "copyNames, other", (x, p) -> x.copyNames(2, p)));
    }

    /** The methods that need an album, but whose first argument is no photo. */
    private static List<Method> ofOther() {
        return List.of(new Method(23, "letters", (x, p) -> x.letters(p)),
                new Method(26, "photosWith", (x, p) -> x.photosWith(p)),
                new Method(28, "mostSeen", (x, p) -> x.mostSeen(p)),
                new Method(40, "writeChange", (x, p) -> x.writeChange(p)),
                new Method(51, "save", (x, p) -> x.save(p)),
                new Method(4, "phrases", (x, p) -> x.phrases(p, 0)));
    }

    private static void noAlbum(Sentences s) {
        List<Method> all = new ArrayList<>(ofPhoto());
        all.addAll(ofOther());
        for (Method method : all) {
            s.promise(method.promise, NO_ALBUM, () -> {
                CaptionAlbum fresh = new CaptionAlbum();
                CaptionAlbum failed = new CaptionAlbum();
                Due.argument("load", () -> Due.load(failed, "album gap 1;name a b;photo 9 9;person 0"));
                int[] any = {0, 1, -1, Integer.MAX_VALUE};
                for (int photo : any) {
                    Due.state(method.name, () -> method.call.on(fresh, photo));
                    Due.state(method.name + " after an error", () -> method.call.on(failed, photo));
                }
            });
        }
    }

    private static void noPhoto(Sentences s) {
        for (Method method : ofPhoto()) {
            s.promise(method.promise, NO_PHOTO, () -> {
                for (int photo : WRONG_PHOTOS) {
                    CaptionAlbum x = Due.album(ALBUM);
                    Due.index(method.name, () -> method.call.on(x, photo));
                    Due.is("undoable()", x.undoable(), 0);
                }
                CaptionAlbum one = Due.album("album gap 1;name a b;photo 9 9;person 0 1 1");
                Due.index(method.name + " of photo 1", () -> method.call.on(one, 1));
                for (int photo = 0; photo < 2; photo++) {
                    method.call.on(Due.album(ALBUM), photo);
                }
            });
        }
    }

    private static void kindsOfExceptions(Sentences s) {
        s.section(7, "IllegalStateException is thrown if there is no album (no text was loaded).", () -> {
            CaptionAlbum x = new CaptionAlbum();
            Due.feed(x, ALBUM);
            Due.state("people(0), only appended", () -> x.people(0));
            Due.index("load of too much", () -> x.load(1200));
            Due.state("people(0), not loaded", () -> x.people(0));
            Due.is("load", x.load(ALBUM.length()), 3);
            Due.is("people(0)", x.people(0), 3);
        });
        s.section(7, "IndexOutOfBoundsException is thrown if there is no such photo, person, name, row, "
                + "place, slot or index;", () -> {
            CaptionAlbum x = Due.album(ALBUM);
            Due.index("photo", () -> x.people(3));
            Due.index("person", () -> x.isIn(0, 3));
            Due.index("name", () -> x.letters(3));
            Due.index("row", () -> x.rowLength(0, 2));
            Due.index("place", () -> x.inOrder(0, 3));
            Due.index("slot", () -> x.save(2));
            Due.index("index", () -> x.writtenByte(0));
        });
        s.section(7, "IllegalArgumentException if another argument is out of its range.", () -> {
            CaptionAlbum x = Due.album(ALBUM);
            Due.argument("what", () -> x.frame(0, 4));
            Due.argument("x", () -> x.nearest(0, 1000, 0, 0));
            Due.argument("distance", () -> x.groups(0, 1999));
            Due.argument("set", () -> x.tightest(0, 8, 0));
            Due.argument("width", () -> x.window(0, 101));
            Due.argument("x2", () -> x.crop(0, 0, 0, 100, 0));
        });
    }

    private static void firstListed(Sentences s) {
        s.section(7, "If several exceptions apply, the one that is listed first at the method is thrown.",
                () -> {
            CaptionAlbum none = new CaptionAlbum();
            none.append(0, 0, 0, 0, 0);
            Due.state("phrases", () -> none.phrases(-1, 21));
            Due.state("frame", () -> none.frame(0, 4));
            Due.state("nearest", () -> none.nearest(0, -1, -1, -1));
            Due.state("groups", () -> none.groups(0, -1));
            Due.state("keeps", () -> none.keeps(0, -1, 0, 0, 0));
            Due.state("tightest", () -> none.tightest(0, 0, 4));
            Due.state("window", () -> none.window(0, 0));
            Due.state("crop", () -> none.crop(0, -1, 0, 0, 0));
            Due.state("addPerson", () -> none.addPerson(0, -1, 0));
            Due.state("giveName", () -> none.giveName(0, 0, -2));
            Due.state("copyNames", () -> none.copyNames(1, 1));
            Due.state("mostSeen", () -> none.mostSeen(-1));
            Due.state("writeChange", () -> none.writeChange(0));
            Due.state("save", () -> none.save(2));
            Due.index("restore", () -> none.restore(2));
            indexBeforeArgument();
        });
    }

    private static void indexBeforeArgument() {
        CaptionAlbum x = Due.album(ALBUM);
        Due.index("frame", () -> x.frame(3, 4));
        Due.index("nearest, photo", () -> x.nearest(3, -1, 0, 0));
        Due.index("nearest, rank", () -> x.nearest(0, -1, 1000, 3));
        Due.index("groups", () -> x.groups(3, -1));
        Due.index("keeps", () -> x.keeps(3, -1, 0, 0, 0));
        Due.index("tightest", () -> x.tightest(-1, 0, 4));
        Due.index("window", () -> x.window(3, 0));
        Due.index("crop", () -> x.crop(3, -1, 0, 0, 0));
        Due.index("addPerson", () -> x.addPerson(3, -1, 0));
        Due.index("copyNames", () -> x.copyNames(3, 3));
        Due.feed(x, "wrong");
        Due.index("load, the text too", () -> x.load(21));
        Due.index("phrases, the text too", () -> x.phrases(0, 21));
        Due.index("phrases of no photo, the text too", () -> x.phrases(3, 5));
        for (int i = 0; i < 12; i++) {
            x.addPerson(2, 0, 0);
        }
        Due.state("addPerson, the range too", () -> x.addPerson(2, 9, -1));
        Due.index("addPerson, no photo", () -> x.addPerson(3, 9, -1));
    }

    /** An album that was changed, with a state saved, a text written and bytes in the buffer. */
    private static CaptionAlbum changed() {
        CaptionAlbum x = Due.album(ALBUM);
        x.giveName(0, 0, 1);
        x.save(1);
        x.retouch(0, 2, true);
        x.crop(0, 5, 5, 90, 70);
        x.flip(1);
        x.giveName(1, 1, 2);
        x.write(2);
        Due.argument("phrases", () -> Due.phrases(x, 0, "all left ann fox"));
        Due.feed(x, "all left ann lee");
        return x;
    }

    private static List<Refused> refused() {
        List<Refused> all = new ArrayList<>();
        for (Method method : ofPhoto()) {
            all.add(new Refused("index", method.name, (x, p) -> method.call.on(x, 3)));
        }
        all.add(new Refused("index", "load(-1)", (x, p) -> x.load(-1)));
        all.add(new Refused("index", "load(21)", (x, p) -> x.load(21)));
        all.add(new Refused("index", "phrases(3, 16)", (x, p) -> x.phrases(3, 16)));
        all.add(new Refused("index", "phrases(0, 21)", (x, p) -> x.phrases(0, 21)));
        all.add(new Refused("argument", "frame", (x, p) -> x.frame(0, 4)));
        all.add(new Refused("index", "isIn", (x, p) -> x.isIn(0, 3)));
        all.add(new Refused("index", "rowLength", (x, p) -> x.rowLength(0, 1)));
        all.add(new Refused("index", "personAt", (x, p) -> x.personAt(0, 0, 2)));
        all.add(new Refused("index", "inOrder", (x, p) -> x.inOrder(0, 2)));
        all.add(new Refused("argument", "nearest", (x, p) -> x.nearest(0, 0, 1000, 0)));
        all.add(new Refused("index", "letters", (x, p) -> x.letters(3)));
        all.add(new Refused("index", "who", (x, p) -> x.who(0, 3)));
        all.add(new Refused("index", "photosWith", (x, p) -> x.photosWith(-1)));
        all.add(new Refused("index", "mostSeen", (x, p) -> x.mostSeen(3)));
        all.add(new Refused("argument", "groups", (x, p) -> x.groups(0, 1999)));
        all.add(new Refused("argument", "keeps", (x, p) -> x.keeps(0, 0, 0, 86, 0)));
        all.add(new Refused("argument", "tightest", (x, p) -> x.tightest(0, 4, 0)));
        all.add(new Refused("argument", "window", (x, p) -> x.window(0, 87)));
        all.add(new Refused("index", "writeChange", (x, p) -> x.writeChange(0)));
        all.add(new Refused("index", "writtenByte", (x, p) -> x.writtenByte(6)));
        addRefusedChanges(all);
        return all;
    }

    private static void addRefusedChanges(List<Refused> all) {
        all.add(new Refused("argument", "crop", (x, p) -> x.crop(0, 0, 0, 86, 0)));
        all.add(new Refused("argument", "crop, y2", (x, p) -> x.crop(0, 1, 2, 3, 1)));
        all.add(new Refused("index", "retouch", (x, p) -> x.retouch(0, 3, true)));
        all.add(new Refused("argument", "addPerson", (x, p) -> x.addPerson(0, 86, 0)));
        all.add(new Refused("argument", "addPerson, y", (x, p) -> x.addPerson(0, 0, 66)));
        all.add(new Refused("index", "giveName, person", (x, p) -> x.giveName(0, 3, 0)));
        all.add(new Refused("index", "giveName, name", (x, p) -> x.giveName(0, 0, 3)));
        all.add(new Refused("argument", "copyNames", (x, p) -> x.copyNames(1, 1)));
        all.add(new Refused("index", "copyNames, other", (x, p) -> x.copyNames(1, 3)));
        all.add(new Refused("index", "save", (x, p) -> x.save(2)));
        all.add(new Refused("index", "restore", (x, p) -> x.restore(2)));
        all.add(new Refused("state", "restore(0)", (x, p) -> x.restore(0)));
    }

    private static void nothingChanges(Sentences s) {
        s.section(7, "A call of a method that throws an exception changes nothing", () -> {
            for (Refused refused : refused()) {
                CaptionAlbum x = changed();
                CaptionAlbum plain = changed();
                Due.Call call = () -> refused.call.on(x, 0);
                switch (refused.kind) {
                    case "index" -> Due.index(refused.name, call);
                    case "argument" -> Due.argument(refused.name, call);
                    default -> Due.state(refused.name, call);
                }
                Due.is("texts after " + refused.name, Due.texts(x), "20 bytes, error 6 at 13");
                Due.is("phrases after " + refused.name, x.phrases(0, 16), plain.phrases(0, 16));
                Due.alike(refused.name, x, plain);
            }
        });
        s.section(7, "A call of a method that throws an exception changes nothing, except that load and "
                + "phrases empty the input buffer and set parseError() and errorPosition().", () -> {
            CaptionAlbum x = changed();
            Due.argument("load(16)", () -> x.load(16));
            Due.is("texts", Due.texts(x), "0 bytes, error 1 at 0");
            CaptionAlbum plain = changed();
            Due.alike("load(16)", x, plain);
            CaptionAlbum y = changed();
            Due.argument("phrases(0, 15)", () -> y.phrases(0, 15));
            Due.is("texts", Due.texts(y), "0 bytes, error 6 at 13");
            Due.alike("phrases(0, 15)", y, changed());
            CaptionAlbum full = Due.album("album gap 1;photo 9 9" + ";person 0 1 1".repeat(12));
            Due.state("addPerson", () -> full.addPerson(0, 1, 1));
            Due.is("people(0)", full.people(0), 12);
            Due.is("undoable()", full.undoable(), 0);
        });
    }
}
