/** Promises 8 to 21, and sections 1 and 2. */
final class PictureSentences {
    /** Photo 0 has the rows 0 1 3 and 2; photo 1 has people in two corners; photo 2 has nobody. */
    private static final String ALBUM = "album gap 10;photo 100 80;person 0 10 60;person 0 50 62;"
            + "person 0 30 20;person 0 90 55;photo 999 999;person 1 998 998;person 1 0 0;photo 7 3";

    private PictureSentences() {
    }

    static void tell(Sentences s) {
        photosAndPeople(s);
        frames(s);
        shownPositions(s);
        rowsByY(s);
        placesByX(s);
        counts(s);
        framesAndSets(s);
        rowsAndPlaces(s);
        rowsOfPeople(s);
        order(s);
        nearest(s);
        nearestRefused(s);
    }

    private static CaptionAlbum twelve(String position) {
        return Due.album("album gap 0;photo 20 20" + (";person 0 " + position).repeat(12));
    }

    private static CaptionAlbum people(String... positions) {
        return people(5, positions);
    }

    private static CaptionAlbum people(int gap, String... positions) {
        StringBuilder text = new StringBuilder("album gap " + gap + ";photo 100 200");
        for (String position : positions) {
            text.append(";person 0 ").append(position);
        }
        return Due.album(text.toString());
    }

    private static void photosAndPeople(Sentences s) {
        s.section(1, "A photo has a width and a height and up to 12 people, numbered from 0, each at a "
                + "position (X, Y) with X from 0 to width - 1 and Y from 0 to height - 1;", () -> {
            CaptionAlbum x = Due.album("album gap 0;photo 3 2;person 0 2 1;person 0 0 0");
            Due.is("person 0", x.shownAt(0, 0), 2001);
            Due.is("person 1", x.shownAt(0, 1), 0);
            Due.loadFails("album gap 0;photo 3 2;person 0 3 1", 2, 31);
            Due.loadFails("album gap 0;photo 3 2;person 0 2 2", 2, 33);
            for (int person = 2; person < 12; person++) {
                Due.is("addPerson", x.addPerson(0, 1, 1), person);
            }
            Due.state("a 13th person", () -> x.addPerson(0, 1, 1));
            Due.is("people(0)", x.people(0), 12);
            Due.is("12 of a text", twelve("1 1").people(0), 12);
        });
        s.section(1, "Y grows downwards.", () -> {
            CaptionAlbum x = people("5 0", "5 100");
            Due.is("the greater y in front", Due.rowsOf(x, 0), "1; 0");
            Due.is("of the upper half", x.keeps(0, 0, 0, 99, 50), 1);
        });
        s.promise(8, "Returns the number of photos; 0 if there is no album.", () -> {
            CaptionAlbum x = new CaptionAlbum();
            Due.is("none", x.photos(), 0);
            Due.argument("load", () -> Due.load(x, "album gap 0;photo 3 2;photo 3"));
            Due.is("none after an error", x.photos(), 0);
            Due.load(x, "album gap 0;photo 3 2");
            Due.is("one", x.photos(), 1);
            Due.load(x, "album gap 0" + ";photo 3 2".repeat(5));
            Due.is("five", x.photos(), 5);
        });
        s.promise(9, "Returns the number of people of a photo, those that are not in the picture "
                + "included.", () -> {
            CaptionAlbum x = Due.album(ALBUM);
            Due.is("four", x.people(0), 4);
            Due.is("nobody", x.people(2), 0);
            Due.is("twelve", twelve("1 1").people(0), 12);
            x.crop(0, 0, 0, 0, 0);
            x.retouch(0, 0, true);
            Due.is("nobody in the picture", x.people(0), 4);
        });
    }

    private static void frames(Sentences s) {
        s.section(1, "The picture of a photo is what is inside its frame, which reaches from LEFT to "
                + "RIGHT and from TOP to BOTTOM, all included;", () -> {
            CaptionAlbum x = people("10 50", "9 50", "20 50", "21 50", "15 40", "15 39", "15 60",
                    "15 61", "10 40", "20 60");
            x.crop(0, 10, 40, 20, 60);
            Due.is("frame", Due.frame(x, 0), "10 40 20 60");
            Due.is("inPicture(0)", x.inPicture(0), 0b1101010101);
            x.flip(0);
            Due.is("inPicture(0), flipped", x.inPicture(0), 0b1101010101);
        });
        s.section(1, "at first it is the whole photo.", () -> {
            CaptionAlbum x = Due.album("album gap 0;photo 1 1;photo 999 1;photo 1 999;person 0 0 0;"
                    + "person 1 998 0;person 2 0 998");
            Due.is("1 1", Due.frame(x, 0) + " " + x.inPicture(0), "0 0 0 0 1");
            Due.is("999 1", Due.frame(x, 1) + " " + x.inPicture(1), "0 0 998 0 1");
            Due.is("1 999", Due.frame(x, 2) + " " + x.inPicture(2), "0 0 0 998 1");
        });
        s.section(1, "The picture may be flipped.", () -> {
            CaptionAlbum x = Due.album(ALBUM);
            x.flip(1);
            Due.is("isFlipped(0)", x.isFlipped(0), false);
            Due.is("isFlipped(1)", x.isFlipped(1), true);
        });
        s.section(1, "A person is in the picture if the position is inside the frame and the person has "
                + "not been retouched away.", () -> {
            CaptionAlbum x = people("5 5", "5 5", "50 5", "50 5");
            x.crop(0, 0, 0, 9, 9);
            x.retouch(0, 1, true);
            x.retouch(0, 3, true);
            Due.is("inside", x.isIn(0, 0), true);
            Due.is("inside, away", x.isIn(0, 1), false);
            Due.is("outside", x.isIn(0, 2), false);
            Due.is("outside, away", x.isIn(0, 3), false);
            x.uncrop(0);
            Due.is("then inside, away", x.inPicture(0), 5);
        });
    }

    private static void shownPositions(Sentences s) {
        s.section(1, "The shown position of a person in the picture is (X - LEFT, Y - TOP), or (RIGHT - "
                + "X, Y - TOP) if the picture is flipped.", () -> {
            CaptionAlbum x = people("10 40", "20 60", "13 41");
            x.crop(0, 10, 40, 20, 60);
            Due.is("LEFT TOP", x.shownAt(0, 0), 0);
            Due.is("RIGHT BOTTOM", x.shownAt(0, 1), 10020);
            Due.is("inside", x.shownAt(0, 2), 3001);
            x.flip(0);
            Due.is("LEFT TOP, flipped", x.shownAt(0, 0), 10000);
            Due.is("RIGHT BOTTOM, flipped", x.shownAt(0, 1), 20);
            Due.is("inside, flipped", x.shownAt(0, 2), 7001);
        });
        s.promise(12, "Returns true if the person is.", () -> {
            CaptionAlbum x = people("99 199", "0 0");
            Due.is("the corners", x.isIn(0, 0) && x.isIn(0, 1), true);
            x.crop(0, 1, 0, 99, 199);
            Due.is("one beside LEFT", x.isIn(0, 1), false);
            x.crop(0, 0, 0, 97, 199);
            Due.is("one beside RIGHT", x.isIn(0, 0), false);
        });
        s.promise(13, "Returns the shown position of a person.", () -> {
            CaptionAlbum x = people("99 199", "0 0");
            Due.is("RIGHT BOTTOM", x.shownAt(0, 0), 99199);
            x.flip(0);
            Due.is("LEFT BOTTOM, flipped", x.shownAt(0, 0), 199);
            Due.is("RIGHT TOP, flipped", x.shownAt(0, 1), 99000);
        });
        s.promise(13, "Returns 1000 * x + y; NONE if the person is not in the picture.", () -> {
            CaptionAlbum x = Due.album(ALBUM);
            Due.is("the greatest", x.shownAt(1, 0), 998998);
            Due.is("the smallest", x.shownAt(1, 1), 0);
            Due.is("90 55", x.shownAt(0, 3), 90055);
            x.crop(0, 0, 0, 89, 79);
            Due.is("outside", x.shownAt(0, 3), -1);
            x.retouch(0, 0, true);
            Due.is("away", x.shownAt(0, 0), -1);
        });
        s.promise(14, "Returns the people in the picture.", () -> {
            CaptionAlbum x = Due.album(ALBUM);
            x.crop(0, 10, 20, 50, 60);
            Due.is("on the frame", x.inPicture(0), 0b101);
            x.retouch(0, 2, true);
            Due.is("but who is away", x.inPicture(0), 0b1);
        });
        s.promise(14, "Returns a bit set: bit k is set for person k.", () -> {
            CaptionAlbum x = Due.album(ALBUM);
            Due.is("all", x.inPicture(0), 15);
            Due.is("nobody", x.inPicture(2), 0);
            CaptionAlbum y = twelve("1 1");
            Due.is("twelve", y.inPicture(0), 4095);
            for (int person = 0; person < 12; person++) {
                y.retouch(0, person, true);
                Due.is("but one", y.inPicture(0), 4095 - (1 << person));
                y.retouch(0, person, false);
            }
        });
    }

    private static void rowsByY(Sentences s) {
        s.section(2, "The people in the picture stand in rows.", () -> {
            CaptionAlbum x = people("1 50", "2 100", "3 50");
            x.retouch(0, 1, true);
            Due.is("without who is away", Due.rowsOf(x, 0), "0 2");
            x.crop(0, 2, 0, 99, 199);
            Due.is("without who is outside", Due.rowsOf(x, 0), "2");
            x.retouch(0, 2, true);
            Due.is("without anybody", x.rows(0), 0);
        });
        s.section(2, "In the order of their shown y, the greatest first, a new row begins where y is "
                + "less than that of the person before by more than GAP.", () -> {
            Due.is("less by GAP", Due.rowsOf(people(5, "1 50", "2 45"), 0), "0 1");
            Due.is("less by GAP + 1", Due.rowsOf(people(5, "1 50", "2 44"), 0), "0; 1");
            Due.is("by that of the person before, not of the first",
                    Due.rowsOf(people(5, "1 50", "2 45", "3 40", "4 35"), 0), "0 1 2 3");
            Due.is("in the order of y, not of the numbers",
                    Due.rowsOf(people(5, "1 35", "2 50", "3 40", "4 45"), 0), "0 1 2 3");
            Due.is("GAP 0, equal", Due.rowsOf(people(0, "1 50", "2 50"), 0), "0 1");
            Due.is("GAP 0, less by 1", Due.rowsOf(people(0, "1 50", "2 49"), 0), "0; 1");
            Due.is("GAP 99", Due.rowsOf(people(99, "1 199", "2 100"), 0), "0 1");
            Due.is("GAP 99, less by 100", Due.rowsOf(people(99, "1 199", "2 99"), 0), "0; 1");
            CaptionAlbum x = people(5, "1 50", "2 45", "3 40");
            x.retouch(0, 1, true);
            Due.is("the person before is away", Due.rowsOf(x, 0), "0; 2");
        });
        s.section(2, "Row 0 is the front row.", () -> {
            CaptionAlbum x = people("1 0", "1 199", "1 100");
            Due.is("the greatest y", x.rowOf(0, 1), 0);
            Due.is("the next", x.rowOf(0, 2), 1);
            Due.is("the smallest y", x.rowOf(0, 0), 2);
        });
    }

    private static void placesByX(Sentences s) {
        s.section(2, "In a row, people have places from 0 by their shown x, the smallest first, of equal "
                + "ones the smaller number first.", () -> {
            CaptionAlbum x = people("7 50", "3 48", "7 46", "0 50", "99 50", "7 51");
            Due.is("row", Due.rowsOf(x, 0), "3 1 0 2 5 4");
            x.flip(0);
            Due.is("row, flipped", Due.rowsOf(x, 0), "4 0 2 5 1 3");
            Due.is("twelve at one place", Due.rowsOf(twelve("3 3"), 0),
                    "0 1 2 3 4 5 6 7 8 9 10 11");
        });
        s.section(2, "From the left means in this order, from the right in the reverse order.", () -> {
            String text = "album gap 5;name a b;name c d;name e f;photo 9 9;person 0 3 3;"
                    + "person 0 3 4;person 0 1 4";
            CaptionAlbum x = Due.album(text);
            Due.phrases(x, 0, "row 0 left a b,c d,e f");
            Due.is("from the left", Due.namesOf(x, 0), "1 2 0");
            Due.phrases(x, 0, "row 0 right a b,c d,e f");
            Due.is("from the right", Due.namesOf(x, 0), "1 0 2");
        });
        s.section(2, "The order of all people of a picture is that by the shown x, then by the greater "
                + "shown y, then by the smaller number.", () -> {
            CaptionAlbum x = people("7 9", "7 10", "3 1", "7 10", "9 49", "7 0", "0 0", "99 199");
            Due.is("order", Due.order(x, 0), "6 2 1 3 0 5 4 7");
            x.flip(0);
            Due.is("order, flipped", Due.order(x, 0), "7 4 1 3 0 5 2 6");
            Due.is("twelve at one place", Due.order(twelve("3 3"), 0), "0 1 2 3 4 5 6 7 8 9 10 11");
            CaptionAlbum far = Due.album("album gap 0;photo 999 999;person 0 0 0;person 0 0 998;"
                    + "person 0 1 998;person 0 998 0;person 0 998 998");
            Due.is("order of corners", Due.order(far, 0), "1 0 2 4 3");
        });
    }

    private static void counts(Sentences s) {
        s.promise(15, "Returns the number of rows of a picture.", () -> {
            CaptionAlbum x = Due.album(ALBUM);
            x.crop(0, 0, 0, 0, 0);
            Due.is("all outside", x.rows(0), 0);
            x.uncrop(0);
            Due.is("whole", x.rows(0), 2);
        });
        s.promise(15, "Returns the number of rows.", () -> {
            Due.is("nobody", Due.album(ALBUM).rows(2), 0);
            Due.is("one", people("1 1").rows(0), 1);
            String[] ys = new String[12];
            for (int i = 0; i < 12; i++) {
                ys[i] = "1 " + i;
            }
            Due.is("twelve", people(0, ys).rows(0), 12);
            Due.is("one of twelve", people(1, ys).rows(0), 1);
            CaptionAlbum x = Due.album(ALBUM);
            x.crop(0, 0, 0, 99, 54);
            Due.is("cropped", x.rows(0), 1);
        });
        s.promise(16, "Returns the number of people in a row.", () -> {
            CaptionAlbum x = Due.album(ALBUM);
            Due.is("the first row", x.rowLength(0, 0), 3);
            Due.is("the last row", x.rowLength(0, 1), 1);
            Due.is("twelve", twelve("1 1").rowLength(0, 0), 12);
        });
        s.promise(16, "Throws `IndexOutOfBoundsException` if there is no such photo or row", () -> {
            CaptionAlbum x = Due.album(ALBUM);
            int[] rows = {-1, 2, 12, Integer.MIN_VALUE, Integer.MAX_VALUE};
            for (int row : rows) {
                Due.index("rowLength(0, row)", () -> x.rowLength(0, row));
            }
            Due.index("rowLength(2, 0), nobody", () -> x.rowLength(2, 0));
            x.retouch(0, 2, true);
            Due.index("rowLength(0, 1), retouched", () -> x.rowLength(0, 1));
        });
    }

    private static void framesAndSets(Sentences s) {
        s.promise(10, "`what`: 0 LEFT, 1 TOP, 2 RIGHT, 3 BOTTOM", () -> {
            CaptionAlbum x = Due.album(ALBUM);
            x.crop(0, 5, 6, 70, 71);
            Due.is("LEFT", x.frame(0, 0), 5);
            Due.is("TOP", x.frame(0, 1), 6);
            Due.is("RIGHT", x.frame(0, 2), 70);
            Due.is("BOTTOM", x.frame(0, 3), 71);
        });
        s.promise(10, "Returns a side of the frame of a photo.", () -> {
            CaptionAlbum x = Due.album("album gap 0;photo 1 999");
            Due.is("whole", Due.frame(x, 0), "0 0 0 998");
        });
        s.promise(10, "Returns the side.", () -> {
            CaptionAlbum x = Due.album(ALBUM);
            Due.is("whole", Due.frame(x, 1), "0 0 998 998");
            x.crop(1, 998, 998, 998, 998);
            Due.is("one point", Due.frame(x, 1), "998 998 998 998");
            x.flip(1);
            Due.is("flipped", Due.frame(x, 1), "998 998 998 998");
        });
        s.promise(10, "Throws `IllegalArgumentException` if what is out of range", () -> {
            CaptionAlbum x = Due.album(ALBUM);
            int[] wrong = {-1, 4, 100, Integer.MIN_VALUE, Integer.MAX_VALUE};
            for (int what : wrong) {
                Due.argument("frame(0, what)", () -> x.frame(0, what));
            }
        });
        s.promise(11, "Returns true if it is.", () -> {
            CaptionAlbum x = Due.album(ALBUM);
            Due.is("at first", x.isFlipped(0), false);
            x.flip(0);
            Due.is("flipped", x.isFlipped(0), true);
            Due.is("the other photo", x.isFlipped(1), false);
            x.flip(0);
            Due.is("flipped back", x.isFlipped(0), false);
        });
    }

    private static void rowsAndPlaces(Sentences s) {
        s.promise(17, "`place`: from 0, from the left", () -> {
            CaptionAlbum x = Due.album(ALBUM);
            Due.is("place 0", x.personAt(0, 0, 0), 0);
            Due.is("the last place", x.personAt(0, 0, 2), 3);
            Due.is("row 1", x.personAt(0, 1, 0), 2);
            Due.is("the eleventh", twelve("1 1").personAt(0, 0, 11), 11);
            x.flip(0);
            Due.is("place 0, flipped", x.personAt(0, 0, 0), 3);
        });
        s.promise(17, "Returns the person at a place.", () -> {
            CaptionAlbum x = Due.album(ALBUM);
            x.retouch(0, 0, true);
            Due.is("the first is away", x.personAt(0, 0, 0), 1);
        });
        s.promise(17, "Returns the number of the person.",
                () -> Due.is("all", Due.rowsOf(Due.album(ALBUM), 0), "0 1 3; 2"));
        s.promise(17, "Throws `IndexOutOfBoundsException` if there is no such photo, row or place", () -> {
            CaptionAlbum x = Due.album(ALBUM);
            int[] wrong = {-1, 3, 12, Integer.MIN_VALUE, Integer.MAX_VALUE};
            for (int number : wrong) {
                Due.index("personAt(0, number, 0)", () -> x.personAt(0, number, 0));
                Due.index("personAt(0, 0, number)", () -> x.personAt(0, 0, number));
            }
            Due.index("personAt(0, 2, 0)", () -> x.personAt(0, 2, 0));
            Due.index("personAt(0, 1, 1)", () -> x.personAt(0, 1, 1));
            Due.index("personAt(2, 0, 0)", () -> x.personAt(2, 0, 0));
        });
        s.promise(18, "Returns the row of a person.", () -> {
            CaptionAlbum x = people(0, "1 0", "1 1", "1 2", "1 3", "1 4", "1 5", "1 6", "1 7", "1 8",
                    "1 9", "1 10", "1 11");
            Due.is("the last row", x.rowOf(0, 0), 11);
            Due.is("the front row", x.rowOf(0, 11), 0);
        });
        s.promise(18, "Returns the number of the row; NONE if the person is not in the picture.", () -> {
            CaptionAlbum x = Due.album(ALBUM);
            Due.is("the front", x.rowOf(0, 0), 0);
            Due.is("behind", x.rowOf(0, 2), 1);
            x.retouch(0, 2, true);
            Due.is("away", x.rowOf(0, 2), -1);
            x.crop(0, 11, 0, 99, 79);
            Due.is("outside", x.rowOf(0, 0), -1);
        });
        s.promise(19, "Returns the place of a person in the row.", () -> {
            CaptionAlbum x = twelve("1 1");
            Due.is("the first place", x.placeOf(0, 0), 0);
            Due.is("the last place", x.placeOf(0, 11), 11);
        });
        s.promise(19, "Returns the place; NONE if the person is not in the picture.", () -> {
            CaptionAlbum x = Due.album(ALBUM);
            Due.is("the first", x.placeOf(0, 0), 0);
            Due.is("the last", x.placeOf(0, 3), 2);
            Due.is("of row 1", x.placeOf(0, 2), 0);
            x.retouch(0, 1, true);
            Due.is("away", x.placeOf(0, 1), -1);
            Due.is("the last then", x.placeOf(0, 3), 1);
            x.crop(0, 11, 0, 99, 79);
            Due.is("outside", x.placeOf(0, 0), -1);
            Due.is("alone", x.placeOf(0, 3), 0);
        });
    }

    private static void rowsOfPeople(Sentences s) {
        String[] words = {"Throws `IndexOutOfBoundsException` if there is no such photo or person"};
        int[] promises = {12, 13, 18, 19};
        for (int promise : promises) {
            s.promise(promise, words[0], () -> {
                CaptionAlbum x = Due.album(ALBUM);
                int[] wrong = {-1, 4, 12, Integer.MIN_VALUE, Integer.MAX_VALUE};
                for (int person : wrong) {
                    Due.index("person " + person, () -> ofPerson(promise, x, 0, person));
                }
                Due.index("person 0 of nobody", () -> ofPerson(promise, x, 2, 0));
                Due.is("the last person", ofPerson(promise, x, 0, 3) instanceof Object, true);
                Due.index("person 3 of two", () -> ofPerson(promise, x, 1, 3));
                Due.index("person 2 of two", () -> ofPerson(promise, x, 1, 2));
            });
        }
    }

    private static Object ofPerson(int promise, CaptionAlbum x, int photo, int person) {
        switch (promise) {
            case 12:
                return x.isIn(photo, person);
            case 13:
                return x.shownAt(photo, person);
            case 18:
                return x.rowOf(photo, person);
            default:
                return x.placeOf(photo, person);
        }
    }

    private static void order(Sentences s) {
        s.promise(20, "`place`: from 0", () -> {
            CaptionAlbum x = Due.album(ALBUM);
            Due.is("place 0", x.inOrder(0, 0), 0);
            Due.is("the last place", x.inOrder(0, 3), 3);
            Due.is("place 11", twelve("1 1").inOrder(0, 11), 11);
        });
        s.promise(20, "Returns a person by the order of all people of a picture (section 2).", () -> {
            CaptionAlbum x = Due.album(ALBUM);
            Due.is("order", Due.order(x, 0), "0 2 1 3");
            x.retouch(0, 2, true);
            Due.is("order, retouched", Due.order(x, 0), "0 1 3");
        });
        s.promise(20, "Returns the number of the person.",
                () -> Due.is("order", Due.order(Due.album(ALBUM), 1), "1 0"));
        s.promise(20, "Throws `IndexOutOfBoundsException` if there is no such photo or place", () -> {
            CaptionAlbum x = Due.album(ALBUM);
            int[] wrong = {-1, 4, 12, Integer.MIN_VALUE, Integer.MAX_VALUE};
            for (int place : wrong) {
                Due.index("inOrder(0, place)", () -> x.inOrder(0, place));
            }
            Due.index("inOrder(2, 0)", () -> x.inOrder(2, 0));
            x.retouch(0, 0, true);
            Due.index("inOrder(0, 3), retouched", () -> x.inOrder(0, 3));
        });
    }

    private static void nearest(Sentences s) {
        s.promise(21, "Returns a person by the square of the distance of the shown position to a "
                + "position, smaller ones first, of equal ones the smaller number.", () -> {
            CaptionAlbum x = people("10 14", "14 10", "13 13", "6 10", "10 10");
            int[] due = {4, 0, 1, 3, 2};
            for (int rank = 0; rank < 5; rank++) {
                Due.is("rank " + rank, x.nearest(0, 10, 10, rank), due[rank]);
            }
            Due.is("twelve equal", twelve("3 3").nearest(0, 999, 999, 11), 11);
            x.crop(0, 6, 10, 99, 199);
            Due.is("cropped", x.nearest(0, 0, 0, 0), 3);
            x.flip(0);
            Due.is("flipped", x.nearest(0, 0, 0, 0), 1);
        });
        s.promise(21, "`x`: 0 to 999", () -> {
            CaptionAlbum x = Due.album(ALBUM);
            Due.is("0", x.nearest(1, 0, 500, 0), 1);
            Due.is("999", x.nearest(1, 999, 500, 0), 0);
            Due.argument("-1", () -> x.nearest(1, -1, 0, 0));
            Due.argument("1000", () -> x.nearest(1, 1000, 0, 0));
        });
        s.promise(21, "`y`: 0 to 999", () -> {
            CaptionAlbum x = Due.album(ALBUM);
            Due.is("0", x.nearest(1, 500, 0, 0), 1);
            Due.is("999", x.nearest(1, 500, 999, 0), 0);
            Due.argument("-1", () -> x.nearest(1, 0, -1, 0));
            Due.argument("1000", () -> x.nearest(1, 0, 1000, 0));
        });
        s.promise(21, "`rank`: from 0", () -> {
            CaptionAlbum x = Due.album(ALBUM);
            Due.is("0", x.nearest(0, 50, 62, 0), 1);
            Due.is("the last", x.nearest(0, 50, 62, 3), 2);
            Due.is("11", twelve("1 1").nearest(0, 1, 1, 11), 11);
        });
        s.promise(21, "Returns the number of the person.",
                () -> Due.is("the far corner", Due.album(ALBUM).nearest(1, 0, 0, 1), 0));
    }

    private static void nearestRefused(Sentences s) {
        s.promise(21, "Throws `IndexOutOfBoundsException` if there is no such photo, or rank is negative "
                + "or not less than the number of people in the picture", () -> {
            CaptionAlbum x = Due.album(ALBUM);
            int[] wrong = {-1, 4, 12, Integer.MIN_VALUE, Integer.MAX_VALUE};
            for (int rank : wrong) {
                Due.index("rank", () -> x.nearest(0, 0, 0, rank));
                Due.index("rank, and x and y", () -> x.nearest(0, -1, 1000, rank));
            }
            Due.index("nobody", () -> x.nearest(2, 0, 0, 0));
            x.retouch(0, 0, true);
            Due.index("rank 3 of three", () -> x.nearest(0, 0, 0, 3));
            Due.is("rank 2 of three", x.nearest(0, 0, 0, 2), 3);
        });
        s.promise(21, "Throws `IllegalArgumentException` if x or y is out of range", () -> {
            CaptionAlbum x = Due.album(ALBUM);
            int[] wrong = {-1, 1000, Integer.MIN_VALUE, Integer.MAX_VALUE};
            for (int number : wrong) {
                Due.argument("x", () -> x.nearest(0, number, 999, 0));
                Due.argument("y", () -> x.nearest(0, 999, number, 0));
                Due.argument("x and y", () -> x.nearest(0, number, number, 3));
            }
        });
    }
}
