/** Promises 42 to 48. */
final class ChangeSentences {
    private static final String ALBUM = "album gap 10;name ann lee;name bob lee;name cy fox;"
            + "photo 100 80;person 0 10 60;person 0 50 62;person 0 30 20;person 0 90 55;"
            + "photo 50 50;person 1 10 40;person 1 40 42;person 1 5 5;person 1 9 5;photo 9 9";

    private ChangeSentences() {
    }

    static void tell(Sentences s) {
        crop(s);
        rectangles(s);
        flip(s);
        uncrop(s);
        retouch(s);
        addPerson(s);
        addPersonRefused(s);
        giveName(s);
        giveNameRefused(s);
        copyNames(s);
        copyNamesCounts(s);
    }

    private static void crop(Sentences s) {
        s.promise(42, "Crops a picture to a rectangle of shown positions, both corners included. This is a "
                + "change.", () -> {
            CaptionAlbum x = Due.album(ALBUM);
            x.crop(0, 10, 20, 50, 60);
            Due.is("both corners", Due.frame(x, 0) + " " + x.inPicture(0), "10 20 50 60 5");
            x.crop(0, 1, 0, 40, 40);
            Due.is("one beside LEFT", Due.frame(x, 0) + " " + x.inPicture(0), "11 20 50 60 4");
            x.flip(0);
            x.crop(0, 2, 3, 20, 30);
            Due.is("flipped", Due.frame(x, 0), "30 23 48 50");
            Due.is("shownAt(0, 2), outside by TOP", x.shownAt(0, 2), -1);
            Due.is("the other photo", Due.frame(x, 1), "0 0 49 49");
            Due.is("undoable()", x.undoable(), 4);
            x.undo();
            Due.is("undone", Due.frame(x, 0), "11 20 50 60");
        });
        s.promise(42, "Returns the number of people who are no longer in the picture.", () -> {
            CaptionAlbum x = Due.album(ALBUM);
            Due.is("the whole picture", x.crop(0, 0, 0, 99, 79), 0);
            Due.is("one", x.crop(0, 0, 0, 89, 79), 1);
            x.retouch(0, 0, true);
            Due.is("all but one, who was away", x.crop(0, 0, 0, 0, 0), 2);
            Due.is("nobody was left", x.crop(0, 0, 0, 0, 0), 0);
            Due.is("nobody there", x.crop(2, 8, 8, 8, 8), 0);
            CaptionAlbum y = Due.album("album gap 0;photo 9 9" + ";person 0 1 1".repeat(12));
            Due.is("none of twelve", y.crop(0, 1, 1, 1, 1), 0);
            y.uncrop(0);
            Due.is("twelve", y.crop(0, 2, 1, 8, 8), 12);
        });
        s.promise(42, "Throws `IllegalArgumentException` if an argument is out of range",
                () -> Rectangles.refused((x, r) -> x.crop(0, r[0], r[1], r[2], r[3])));
    }

    private static void rectangles(Sentences s) {
        String[] words = {"`x1`: 0 to RIGHT - LEFT", "`y1`: 0 to BOTTOM - TOP",
            "`x2`: x1 to RIGHT - LEFT", "`y2`: y1 to BOTTOM - TOP"};
        for (int i = 0; i < 4; i++) {
            int place = i;
            s.promise(42, words[i], () -> {
                int least = place < 2 ? 0 : place == 2 ? 3 : 4;
                int most = place % 2 == 0 ? 40 : 60;
                Due.is("the least", cut(place, least), dueOf(place, least));
                Due.is("the most", cut(place, most), dueOf(place, most));
                Due.argument("less", () -> cut(place, least - 1));
                Due.argument("more", () -> cut(place, most + 1));
            });
        }
    }

    private static int[] rectangle(int place, int argument) {
        int[] r = {3, 4, 3, 4};
        r[place < 2 ? place + 2 : place] = place % 2 == 0 ? 40 : 60;
        r[place] = argument;
        return r;
    }

    /** The frame after a crop of a picture of 41 times 61, where one argument is as told. */
    private static String cut(int place, int argument) {
        int[] r = rectangle(place, argument);
        CaptionAlbum x = Due.album("album gap 1;photo 100 100");
        x.crop(0, 20, 10, 60, 70);
        x.crop(0, r[0], r[1], r[2], r[3]);
        return Due.frame(x, 0);
    }

    private static String dueOf(int place, int argument) {
        int[] r = rectangle(place, argument);
        return (20 + r[0]) + " " + (10 + r[1]) + " " + (20 + r[2]) + " " + (10 + r[3]);
    }

    private static void flip(Sentences s) {
        s.promise(43, "Flips a picture, or flips it back. This is a change.", () -> {
            CaptionAlbum x = Due.album(ALBUM);
            x.flip(0);
            Due.is("flipped", x.shownAt(0, 0), 89060);
            x.flip(0);
            Due.is("flipped back", x.shownAt(0, 0), 10060);
            Due.is("undoable()", x.undoable(), 2);
            x.undo();
            Due.is("undone", x.isFlipped(0), true);
        });
        s.promise(43, "Returns true if it is flipped then.", () -> {
            CaptionAlbum x = Due.album(ALBUM);
            Due.is("flip(2)", x.flip(2), true);
            Due.is("flip(2) again", x.flip(2), false);
            Due.is("flip(0)", x.flip(0), true);
        });
    }

    private static void uncrop(Sentences s) {
        s.promise(44, "Makes the frame the whole photo; the picture stays flipped if it is, and retouched "
                + "people stay away. This is a change.", () -> {
            CaptionAlbum x = Due.album(ALBUM);
            x.crop(0, 1, 2, 98, 77);
            x.flip(0);
            x.retouch(0, 3, true);
            x.uncrop(0);
            Due.is("frame", Due.frame(x, 0), "0 0 99 79");
            Due.is("isFlipped(0)", x.isFlipped(0), true);
            Due.is("inPicture(0)", x.inPicture(0), 7);
            Due.is("undoable()", x.undoable(), 4);
            x.uncrop(1);
            Due.is("undoable(), whole already", x.undoable(), 5);
            Due.is("not flipped", x.isFlipped(1), false);
            x.undo();
            x.undo();
            Due.is("undone", Due.frame(x, 0), "1 2 98 77");
        });
        s.promise(44, "Returns the number of people who are in the picture in addition.", () -> {
            CaptionAlbum x = Due.album(ALBUM);
            Due.is("whole already", x.uncrop(0), 0);
            x.crop(0, 0, 0, 40, 79);
            Due.is("two", x.uncrop(0), 2);
            x.crop(0, 0, 0, 0, 0);
            Due.is("four", x.uncrop(0), 4);
            x.crop(0, 0, 0, 0, 0);
            x.retouch(0, 0, true);
            Due.is("three, one is away", x.uncrop(0), 3);
        });
    }

    private static void retouch(Sentences s) {
        s.promise(45, "Retouches a person away, or brings the person back. This is a change, even if it is "
                + "so already.", () -> {
            CaptionAlbum x = Due.album(ALBUM);
            x.retouch(0, 3, true);
            Due.is("away", x.inPicture(0), 7);
            x.retouch(0, 3, true);
            Due.is("away already", x.undoable(), 2);
            x.retouch(0, 3, false);
            Due.is("back", x.inPicture(0), 15);
            x.retouch(0, 3, false);
            Due.is("back already", x.undoable(), 4);
            x.undo();
            x.undo();
            Due.is("undone", x.inPicture(0), 7);
            Due.is("the other photo", x.inPicture(1), 15);
        });
        s.promise(45, "Returns whether the person was retouched away before.", () -> {
            CaptionAlbum x = Due.album(ALBUM);
            Due.is("at first", x.retouch(0, 0, false), false);
            Due.is("not yet", x.retouch(0, 0, true), false);
            Due.is("already", x.retouch(0, 0, true), true);
            Due.is("until now", x.retouch(0, 0, false), true);
            Due.is("no more", x.retouch(0, 0, false), false);
            x.crop(0, 0, 0, 0, 0);
            Due.is("outside is not away", x.retouch(0, 0, true), false);
        });
        s.promise(45, "`away`: true if the person is retouched away", () -> {
            CaptionAlbum x = Due.album(ALBUM);
            x.crop(0, 0, 0, 0, 0);
            x.retouch(0, 0, false);
            Due.is("outside stays outside", x.inPicture(0), 0);
        });
        s.promise(45, "Throws `IndexOutOfBoundsException` if there is no such photo or person", () -> {
            CaptionAlbum x = Due.album(ALBUM);
            int[] wrong = {-1, 4, 12, Integer.MIN_VALUE, Integer.MAX_VALUE};
            for (int person : wrong) {
                Due.index("retouch(0, person, true)", () -> x.retouch(0, person, true));
                Due.index("retouch(0, person, false)", () -> x.retouch(0, person, false));
            }
            Due.index("retouch(2, 0, true), nobody", () -> x.retouch(2, 0, true));
            Due.is("the last person", x.retouch(0, 3, true), false);
        });
    }

    private static void addPerson(Sentences s) {
        s.promise(46, "Adds a person at a shown position, with the next number. This is a change.", () -> {
            CaptionAlbum x = Due.album(ALBUM);
            x.crop(0, 20, 10, 60, 70);
            Due.is("number", x.addPerson(0, 3, 4), 4);
            x.flip(0);
            Due.is("number, flipped", x.addPerson(0, 7, 0), 5);
            Due.is("shown positions", x.shownAt(0, 4) + " " + x.shownAt(0, 5), "37004 7000");
            Due.is("no names", x.nameOf(0, 4) + " " + x.nameOf(0, 5), "-1 -1");
            x.flip(0);
            x.uncrop(0);
            Due.is("in the whole photo", x.shownAt(0, 4) + " " + x.shownAt(0, 5), "23014 53010");
            Due.is("undoable()", x.undoable(), 6);
            Due.is("the first of a photo", x.addPerson(2, 0, 0), 0);
            x.undo();
            Due.is("undone", x.people(2), 0);
        });
        s.promise(46, "`x`: 0 to RIGHT - LEFT", () -> {
            for (int turns = 0; turns < 2; turns++) {
                CaptionAlbum x = cropped(turns);
                Due.is("0", added(x, 0, 5), 5);
                Due.is("RIGHT - LEFT", added(x, 40, 5), 40005);
                Due.argument("-1", () -> x.addPerson(0, -1, 5));
                Due.argument("RIGHT - LEFT + 1", () -> x.addPerson(0, 41, 5));
            }
        });
        s.promise(46, "`y`: 0 to BOTTOM - TOP", () -> {
            for (int turns = 0; turns < 2; turns++) {
                CaptionAlbum x = cropped(turns);
                Due.is("0", added(x, 5, 0), 5000);
                Due.is("BOTTOM - TOP", added(x, 5, 60), 5060);
                Due.argument("-1", () -> x.addPerson(0, 5, -1));
                Due.argument("BOTTOM - TOP + 1", () -> x.addPerson(0, 5, 61));
            }
        });
        s.promise(46, "Returns the number of the person.", () -> {
            CaptionAlbum x = Due.album(ALBUM);
            for (int person = 4; person < 12; person++) {
                Due.is("addPerson", x.addPerson(1, 1, 1), person);
            }
            x.undo();
            x.retouch(1, 10, true);
            Due.is("the number that was undone", x.addPerson(1, 2, 2), 11);
        });
    }

    private static CaptionAlbum cropped(int turns) {
        CaptionAlbum x = Due.album(ALBUM);
        x.crop(0, 20, 10, 60, 70);
        for (int i = 0; i < turns; i++) {
            x.flip(0);
        }
        return x;
    }

    private static int added(CaptionAlbum x, int atX, int atY) {
        return x.shownAt(0, x.addPerson(0, atX, atY));
    }

    private static void addPersonRefused(Sentences s) {
        s.promise(46, "Throws `IllegalStateException` if there is no album, or the photo, if there is such a "
                + "one, has 12 people", () -> {
            CaptionAlbum none = new CaptionAlbum();
            Due.state("no album", () -> none.addPerson(0, 0, 0));
            Due.state("no album, no photo", () -> none.addPerson(-1, -1, 0));
            CaptionAlbum x = Due.album("album gap 0;photo 9 9;photo 9 9" + ";person 0 1 1".repeat(11));
            Due.is("the twelfth", x.addPerson(0, 1, 1), 11);
            Due.state("the thirteenth", () -> x.addPerson(0, 1, 1));
            Due.state("out of range too", () -> x.addPerson(0, -1, 9));
            Due.is("the other photo", x.addPerson(1, 1, 1), 0);
            Due.index("no photo", () -> x.addPerson(2, 1, 1));
            x.retouch(0, 0, true);
            x.crop(0, 2, 2, 3, 3);
            Due.state("not in the picture", () -> x.addPerson(0, 1, 1));
        });
        s.promise(46, "Throws `IndexOutOfBoundsException` if there is no such photo", () -> {
            CaptionAlbum x = Due.album(ALBUM);
            int[] wrong = {-1, 3, 5, Integer.MIN_VALUE, Integer.MAX_VALUE};
            for (int photo : wrong) {
                Due.index("addPerson(photo, 0, 0)", () -> x.addPerson(photo, 0, 0));
                Due.index("out of range too", () -> x.addPerson(photo, -1, 1000));
            }
        });
        s.promise(46, "Throws `IllegalArgumentException` if x or y is out of range", () -> {
            CaptionAlbum x = Due.album(ALBUM);
            int[] wrong = {-1, 9, Integer.MIN_VALUE, Integer.MAX_VALUE};
            for (int number : wrong) {
                Due.argument("x", () -> x.addPerson(2, number, 0));
                Due.argument("y", () -> x.addPerson(2, 0, number));
            }
            Due.is("people(2)", x.people(2), 0);
        });
    }

    private static void giveName(Sentences s) {
        s.promise(47, "Gives a person a name, or takes it (section 3). This is a change.", () -> {
            CaptionAlbum x = Due.album(ALBUM);
            x.giveName(0, 1, 2);
            Due.is("given", Due.namesOf(x, 0), "- 2 - -");
            x.giveName(0, 1, -1);
            Due.is("taken", Due.namesOf(x, 0), "- - - -");
            x.giveName(0, 1, -1);
            x.giveName(0, 0, 0);
            x.giveName(0, 0, 0);
            Due.is("each is a change", x.undoable(), 5);
            x.giveName(0, 3, 0);
            x.undo();
            Due.is("undone for both people", Due.namesOf(x, 0), "0 - - -");
        });
        s.promise(47, "Returns the previous name of the person, NONE if there was none.", () -> {
            CaptionAlbum x = Due.album(ALBUM);
            Due.is("none", x.giveName(0, 1, 0), -1);
            Due.is("0", x.giveName(0, 1, 2), 0);
            Due.is("the same", x.giveName(0, 1, 2), 2);
            Due.is("another person's", x.giveName(0, 3, 2), -1);
            Due.is("taken by the other", x.giveName(0, 1, -1), -1);
            Due.is("taken", x.giveName(0, 3, -1), 2);
            Due.is("taken already", x.giveName(0, 3, -1), -1);
        });
        s.promise(47, "`name`: number of the name, or NONE", () -> {
            CaptionAlbum x = Due.album("album gap 1;photo 1 1;person 0 0 0");
            Due.is("NONE where no name is", x.giveName(0, 0, -1), -1);
            Due.index("0 where no name is", () -> x.giveName(0, 0, 0));
            Due.index("-2", () -> x.giveName(0, 0, -2));
        });
    }

    private static void giveNameRefused(Sentences s) {
        s.promise(47, "Throws `IndexOutOfBoundsException` if there is no such photo, person or name", () -> {
            CaptionAlbum x = Due.album(ALBUM);
            int[] names = {-2, 3, 20, Integer.MIN_VALUE, Integer.MAX_VALUE};
            int[] people = {-1, 4, 12, Integer.MIN_VALUE, Integer.MAX_VALUE};
            int[] photos = {-1, 3, 5, Integer.MIN_VALUE, Integer.MAX_VALUE};
            for (int i = 0; i < 5; i++) {
                int name = names[i];
                int person = people[i];
                int photo = photos[i];
                Due.index("name", () -> x.giveName(0, 0, name));
                Due.index("person", () -> x.giveName(0, person, 0));
                Due.index("person, NONE", () -> x.giveName(0, person, -1));
                Due.index("photo", () -> x.giveName(photo, 0, 0));
                Due.index("photo, NONE", () -> x.giveName(photo, 0, -1));
            }
            Due.index("nobody", () -> x.giveName(2, 0, 0));
            Due.is("the last person and name", x.giveName(0, 3, 2), -1);
            Due.is("undoable()", x.undoable(), 1);
        });
    }

    private static void copyNames(Sentences s) {
        s.promise(48, "Gives names by the places of another picture: for each row by its number and each "
                + "place that are in both pictures, if the person there in the other picture has a name, the "
                + "person in this picture gets it.", () -> {
            CaptionAlbum x = Due.album(ALBUM);
            // The rows of photo 0 are 0 1 3 and 2, those of photo 1 are 0 1 and 2 3.
            x.giveName(0, 1, 0);
            x.giveName(0, 2, 1);
            x.giveName(0, 3, 2);
            x.giveName(1, 0, 2);
            Due.is("two places", x.copyNames(1, 0), 2);
            Due.is("who has no name there gives none", Due.namesOf(x, 1), "2 0 1 -");
            Due.is("the other photo", Due.namesOf(x, 0), "- 0 1 2");
            x.retouch(0, 1, true);
            Due.is("the places then", x.copyNames(1, 0), 2);
            Due.is("by the picture", Due.namesOf(x, 1), "- 2 1 -");
            x.crop(0, 0, 56, 99, 79);
            Due.is("one row, no name", x.copyNames(1, 0), 0);
            Due.is("nobody there", x.copyNames(1, 2), 0);
            Due.is("nobody here", x.copyNames(2, 1), 0);
        });
        s.promise(48, "Rows and places are gone through in ascending order. This is a change.", () -> {
            CaptionAlbum x = Due.album(ALBUM);
            x.giveName(0, 0, 0);
            x.giveName(0, 1, 1);
            x.giveName(0, 2, 2);
            x.giveName(1, 0, 1);
            x.giveName(1, 1, 2);
            x.giveName(1, 3, 0);
            Due.is("three", x.copyNames(1, 0), 3);
            Due.is("names that others had", Due.namesOf(x, 1), "0 1 2 -");
            Due.is("undo()", x.undo(), 5);
            Due.is("undone", Due.namesOf(x, 1), "1 2 - 0");
        });
    }

    private static void copyNamesCounts(Sentences s) {
        s.promise(48, "Returns how many people got a name by it, each time counted.", () -> {
            CaptionAlbum x = Due.album(ALBUM);
            Due.is("none", x.copyNames(0, 1), 0);
            Due.is("it is a change", x.undoable(), 1);
            x.giveName(1, 0, 0);
            Due.is("one", x.copyNames(0, 1), 1);
            Due.is("one who has it already", x.copyNames(0, 1), 1);
            CaptionAlbum y = Due.album("album gap 0" + names(12) + ";photo 9 9;photo 9 9"
                    + ";person 0 1 1".repeat(12) + ";person 1 1 1".repeat(12));
            for (int person = 0; person < 12; person++) {
                y.giveName(1, person, person);
            }
            Due.is("twelve", y.copyNames(0, 1), 12);
            Due.is("names", Due.namesOf(y, 0), "0 1 2 3 4 5 6 7 8 9 10 11");
            y.flip(0);
            y.retouch(1, 0, true);
            Due.is("eleven", y.copyNames(0, 1), 11);
            Due.is("the last one has none", Due.namesOf(y, 0), "1 2 3 4 5 6 7 8 9 10 11 -");
        });
        s.promise(48, "Throws `IllegalArgumentException` if both are the same", () -> {
            CaptionAlbum x = Due.album(ALBUM);
            for (int photo = 0; photo < 3; photo++) {
                int same = photo;
                Due.argument("copyNames(photo, photo)", () -> x.copyNames(same, same));
            }
            Due.is("undoable()", x.undoable(), 0);
        });
        s.promise(48, "Throws `IndexOutOfBoundsException` if there is no such photo", () -> {
            CaptionAlbum x = Due.album(ALBUM);
            int[] wrong = {-1, 3, 5, Integer.MIN_VALUE, Integer.MAX_VALUE};
            for (int photo : wrong) {
                Due.index("copyNames(photo, 0)", () -> x.copyNames(photo, 0));
                Due.index("copyNames(0, photo)", () -> x.copyNames(0, photo));
                Due.index("both the same", () -> x.copyNames(photo, photo));
            }
        });
    }

    private static String names(int count) {
        StringBuilder names = new StringBuilder();
        for (int i = 0; i < count; i++) {
            names.append(";name ").append((char) ('a' + i)).append(" b");
        }
        return names.toString();
    }
}
