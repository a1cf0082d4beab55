/** Promises 32 to 38. */
final class MeasureSentences {
    private static final String ALBUM = "album gap 10;photo 100 80;person 0 10 60;person 0 50 62;"
            + "person 0 30 20;person 0 90 55;photo 999 999;person 1 998 998;person 1 0 0;photo 7 3";

    private MeasureSentences() {
    }

    static void tell(Sentences s) {
        groups(s);
        linking(s);
        spacing(s);
        aspect(s);
        keeps(s);
        tightest(s);
        tightestRefused(s);
        window(s);
    }

    private static CaptionAlbum twelve(String position) {
        return Due.album("album gap 0;photo 20 20" + (";person 0 " + position).repeat(12));
    }

    private static void groups(Sentences s) {
        s.promise(32, "Returns the number of groups in a picture: two people belong to one group if they "
                + "are connected by a chain of people in which neighbours have at most a given distance "
                + "of their shown positions (|dx| + |dy|).", () -> {
            CaptionAlbum x = Due.album(ALBUM);
            // Distances: 0-1 42, 0-2 60, 0-3 85, 1-2 62, 1-3 47, 2-3 95.
            int[] distances = {0, 41, 42, 46, 47, 59, 60, 1998};
            int[] due = {4, 4, 3, 3, 2, 2, 1, 1};
            for (int i = 0; i < distances.length; i++) {
                Due.is("groups(0, " + distances[i] + ")", x.groups(0, distances[i]), due[i]);
            }
            x.retouch(0, 1, true);
            Due.is("who is away connects nobody", x.groups(0, 60), 2);
            CaptionAlbum y = Due.album("album gap 1;photo 99 99;person 0 9 0;person 0 0 0;person 0 6 0;"
                    + "person 0 3 0;person 0 40 40;person 0 40 43");
            Due.is("a chain of 3", y.groups(0, 3), 2);
            Due.is("a chain of 2", y.groups(0, 2), 6);
            y.crop(0, 0, 0, 39, 98);
            Due.is("without who is outside", y.groups(0, 3), 1);
        });
        s.promise(32, "`distance`: 0 to 1998", () -> {
            CaptionAlbum x = Due.album(ALBUM);
            Due.is("0", x.groups(1, 0), 2);
            Due.is("1995", x.groups(1, 1995), 2);
            Due.is("1996", x.groups(1, 1996), 1);
            Due.is("1998", x.groups(1, 1998), 1);
            Due.is("0 at one place", twelve("3 3").groups(0, 0), 1);
        });
        s.promise(32, "Returns the number of groups.", () -> {
            Due.is("nobody", Due.album(ALBUM).groups(2, 0), 0);
            Due.is("nobody, 1998", Due.album(ALBUM).groups(2, 1998), 0);
            Due.is("one", Due.album("album gap 1;photo 1 1;person 0 0 0").groups(0, 0), 1);
            StringBuilder line = new StringBuilder("album gap 1;photo 99 99");
            for (int i = 0; i < 12; i++) {
                line.append(";person 0 ").append(i).append(' ').append(2 * i);
            }
            Due.is("twelve", Due.album(line.toString()).groups(0, 2), 12);
            Due.is("one of twelve", Due.album(line.toString()).groups(0, 3), 1);
        });
        s.promise(32, "Throws `IllegalArgumentException` if distance is out of range", () -> {
            CaptionAlbum x = Due.album(ALBUM);
            int[] wrong = {-1, 1999, Integer.MIN_VALUE, Integer.MAX_VALUE};
            for (int distance : wrong) {
                Due.argument("groups(0, distance)", () -> x.groups(0, distance));
                Due.argument("groups(2, distance), nobody", () -> x.groups(2, distance));
            }
        });
    }

    private static void linking(Sentences s) {
        s.promise(33, "Returns the smallest distance for which groups() is at most 1.", () -> {
            CaptionAlbum x = Due.album(ALBUM);
            Due.is("four", x.linking(0), 60);
            Due.is("groups of less", x.groups(0, 59), 2);
            x.retouch(0, 1, true);
            Due.is("three", x.linking(0), 85);
            Due.is("the greatest", x.linking(1), 1996);
        });
        s.promise(33, "Returns the distance, 0 if fewer than two people are in the picture.", () -> {
            CaptionAlbum x = Due.album(ALBUM);
            Due.is("nobody", x.linking(2), 0);
            x.crop(0, 0, 0, 40, 79);
            Due.is("two", x.linking(0), 60);
            x.retouch(0, 0, true);
            Due.is("one", x.linking(0), 0);
            x.retouch(0, 2, true);
            Due.is("all away", x.linking(0), 0);
            Due.is("two at one place", twelve("3 3").linking(0), 0);
            CaptionAlbum y = Due.album("album gap 1;photo 9 9;person 0 1 1;person 0 1 2");
            Due.is("two", y.linking(0), 1);
        });
    }

    private static void spacing(Sentences s) {
        s.promise(34, "Returns the mean distance of neighbours in a row: the difference of the greatest "
                + "and the smallest shown x in it as a float, divided by the number of people in it minus "
                + "1, as a float.", () -> {
            CaptionAlbum x = Due.album("album gap 1;photo 9 9;person 0 8 1;person 0 2 1;person 0 4 1;"
                    + "person 0 1 1;photo 999 9;person 1 0 1;person 1 1 1;person 1 998 1;person 1 7 5");
            Due.is("7 by 3", x.spacing(0, 0), 7f / 3f);
            Due.is("998 by 2", x.spacing(1, 1), 499f);
            x.flip(0);
            Due.is("flipped", x.spacing(0, 0), 7f / 3f);
            x.retouch(0, 0, true);
            Due.is("3 by 2", x.spacing(0, 0), 1.5f);
            x.crop(0, 0, 0, 6, 8);
            Due.is("2 by 1", x.spacing(0, 0), 2f);
        });
        s.promise(34, "Returns the mean; 0 for one person.", () -> {
            CaptionAlbum x = Due.album(ALBUM);
            Due.is("one", x.spacing(0, 1), 0f);
            Due.is("three", x.spacing(0, 0), 40f);
            Due.is("twelve at one place", twelve("3 3").spacing(0, 0), 0f);
            Due.is("two at one place", Due.album("album gap 1;photo 9 9;person 0 1 1;person 0 1 1")
                    .spacing(0, 0), 0f);
            Due.is("two", Due.album("album gap 1;photo 9 9;person 0 1 1;person 0 8 1")
                    .spacing(0, 0), 7f);
        });
        s.promise(34, "Throws `IndexOutOfBoundsException` if there is no such photo or row", () -> {
            CaptionAlbum x = Due.album(ALBUM);
            int[] wrong = {-1, 2, 12, Integer.MIN_VALUE, Integer.MAX_VALUE};
            for (int row : wrong) {
                Due.index("spacing(0, row)", () -> x.spacing(0, row));
            }
            Due.index("spacing(2, 0), nobody", () -> x.spacing(2, 0));
        });
    }

    private static void aspect(Sentences s) {
        s.promise(35, "Returns RIGHT - LEFT + 1 as a float, divided by BOTTOM - TOP + 1 as a float.", () -> {
            CaptionAlbum x = Due.album(ALBUM);
            Due.is("100 by 80", x.aspect(0), 1.25f);
            x.crop(0, 10, 10, 10, 12);
            Due.is("1 by 3", x.aspect(0), 1f / 3f);
            x.uncrop(0);
            x.crop(0, 1, 3, 98, 5);
            Due.is("98 by 3", x.aspect(0), 98f / 3f);
            x.flip(0);
            Due.is("flipped", x.aspect(0), 98f / 3f);
        });
        s.promise(35, "Returns the quotient.", () -> {
            CaptionAlbum x = Due.album("album gap 1;photo 1 999;photo 999 1;photo 1 1;photo 999 998");
            Due.is("the smallest", x.aspect(0), 1f / 999f);
            Due.is("the greatest", x.aspect(1), 999f);
            Due.is("1 by 1", x.aspect(2), 1f);
            Due.is("999 by 998", x.aspect(3), 999f / 998f);
        });
    }

    private static void keeps(Sentences s) {
        s.promise(36, "Returns who would be in the picture after crop with the same arguments.", () -> {
            int[][] rectangles = {{0, 0, 99, 79}, {10, 20, 50, 60}, {11, 20, 50, 60}, {10, 21, 50, 60},
                {10, 20, 49, 62}, {10, 20, 50, 59}, {50, 62, 50, 62}, {99, 79, 99, 79}, {0, 0, 0, 0}};
            for (int[] r : rectangles) {
                for (int turns = 0; turns < 2; turns++) {
                    CaptionAlbum x = Due.album(ALBUM);
                    for (int i = 0; i < turns; i++) {
                        x.flip(0);
                    }
                    int kept = x.keeps(0, r[0], r[1], r[2], r[3]);
                    Due.is("undoable()", x.undoable(), turns);
                    x.crop(0, r[0], r[1], r[2], r[3]);
                    Due.is("keeps of x1 " + r[0] + ", y1 " + r[1], kept, x.inPicture(0));
                }
            }
            CaptionAlbum x = Due.album(ALBUM);
            Due.is("both corners included", x.keeps(0, 10, 20, 50, 60), 0b101);
            x.crop(0, 20, 10, 60, 70);
            x.flip(0);
            Due.is("shown positions", x.keeps(0, 10, 10, 30, 52), 0b110);
            x.retouch(0, 1, true);
            Due.is("who is away", x.keeps(0, 0, 0, 40, 60), 0b100);
        });
        s.promise(36, "Returns a bit set: bit k is set for person k.", () -> {
            Due.is("twelve", twelve("3 3").keeps(0, 3, 3, 3, 3), 4095);
            Due.is("nobody", twelve("3 3").keeps(0, 4, 3, 19, 19), 0);
            Due.is("nobody there", Due.album(ALBUM).keeps(2, 0, 0, 6, 2), 0);
            Due.is("the far corner", Due.album(ALBUM).keeps(1, 998, 998, 998, 998), 1);
        });
        s.promise(36, "Throws `IllegalArgumentException` if an argument is out of range",
                () -> Rectangles.refused((x, r) -> x.keeps(0, r[0], r[1], r[2], r[3])));
    }

    private static void tightest(Sentences s) {
        s.promise(37, "`what`: 0 for its smallest x, 1 for its smallest y, 2 for its greatest x, 3 for its "
                + "greatest y", () -> {
            CaptionAlbum x = Due.album(ALBUM);
            int[] due = {30, 20, 90, 62};
            for (int what = 0; what < 4; what++) {
                Due.is("what " + what, x.tightest(0, 0b1110, what), due[what]);
            }
        });
        s.promise(37, "Finds the smallest rectangle, in shown positions, that contains some people.", () -> {
            CaptionAlbum x = Due.album(ALBUM);
            x.crop(0, 20, 10, 99, 79);
            x.flip(0);
            Due.is("x1", x.tightest(0, 0b110, 0), 49);
            Due.is("y1", x.tightest(0, 0b110, 1), 10);
            Due.is("x2", x.tightest(0, 0b110, 2), 69);
            Due.is("y2", x.tightest(0, 0b110, 3), 52);
        });
        s.promise(37, "Returns that number.", () -> {
            CaptionAlbum x = Due.album(ALBUM);
            for (int what = 0; what < 4; what++) {
                Due.is("the far corner", x.tightest(1, 1, what), 998);
                Due.is("the near corner", x.tightest(1, 2, what), 0);
                Due.is("both", x.tightest(1, 3, what), what < 2 ? 0 : 998);
                Due.is("twelve", twelve("3 3").tightest(0, 4095, what), 3);
            }
        });
    }

    private static void tightestRefused(Sentences s) {
        s.promise(37, "`set`: a bit set of people in the picture, at least one", () -> {
            CaptionAlbum x = Due.album(ALBUM);
            Due.is("one", x.tightest(0, 8, 0), 90);
            Due.is("all", x.tightest(0, 15, 0), 10);
        });
        s.promise(37, "Throws `IllegalArgumentException` if set is empty or contains others than people in "
                + "the picture, or what is out of range", () -> {
            CaptionAlbum x = Due.album(ALBUM);
            int[] sets = {0, 16, 31, 1 << 12, -1, Integer.MIN_VALUE, Integer.MAX_VALUE};
            for (int set : sets) {
                Due.argument("set " + set, () -> x.tightest(0, set, 0));
            }
            int[] wrong = {-1, 4, Integer.MIN_VALUE, Integer.MAX_VALUE};
            for (int what : wrong) {
                Due.argument("what " + what, () -> x.tightest(0, 1, what));
            }
            x.retouch(0, 1, true);
            Due.argument("one is away", () -> x.tightest(0, 3, 0));
            Due.argument("the one is away", () -> x.tightest(0, 2, 0));
            x.crop(0, 0, 0, 89, 79);
            Due.argument("one is outside", () -> x.tightest(0, 9, 0));
            Due.is("those in the picture", x.tightest(0, 5, 0), 10);
            Due.argument("nobody", () -> x.tightest(2, 1, 0));
            Due.argument("nobody, an empty set", () -> x.tightest(2, 0, 0));
        });
    }

    private static void window(Sentences s) {
        s.promise(38, "Finds the smallest x such that as many people as possible have a shown x from x to "
                + "x + width - 1; x is at least 0, and x + width - 1 at most RIGHT - LEFT.", () -> {
            CaptionAlbum x = Due.album(ALBUM);
            int[] widths = {1, 11, 20, 21, 40, 41, 60, 61, 80, 81, 90, 91, 99, 100};
            int[] due = {10, 0, 0, 10, 0, 10, 0, 0, 0, 10, 1, 0, 0, 0};
            for (int i = 0; i < widths.length; i++) {
                Due.is("width " + widths[i], x.window(0, widths[i]), due[i]);
            }
            CaptionAlbum y = Due.album("album gap 1;photo 10 9;person 0 9 1;person 0 9 2;person 0 0 1");
            Due.is("at the right end", y.window(0, 3), 7);
            Due.is("at the right end, 1", y.window(0, 1), 9);
            y.flip(0);
            Due.is("at the left end", y.window(0, 3), 0);
            y.flip(0);
            y.crop(0, 0, 0, 8, 8);
            Due.is("cropped", y.window(0, 3), 0);
            y.uncrop(0);
            y.crop(0, 5, 0, 9, 8);
            Due.is("shown x", y.window(0, 1), 4);
        });
        s.promise(38, "`width`: 1 to RIGHT - LEFT + 1", () -> {
            CaptionAlbum x = Due.album(ALBUM);
            Due.is("1", x.window(1, 1), 0);
            Due.is("999", x.window(1, 999), 0);
            x.crop(1, 998, 998, 998, 998);
            Due.is("1 of 1", x.window(1, 1), 0);
            Due.argument("2 of 1", () -> x.window(1, 2));
        });
        s.promise(38, "Returns x.", () -> {
            Due.is("nobody", Due.album(ALBUM).window(2, 3), 0);
            Due.is("twelve", twelve("3 3").window(0, 1), 3);
            Due.is("twelve, 4", twelve("3 3").window(0, 4), 0);
            Due.is("twelve at the end", twelve("19 3").window(0, 2), 18);
        });
        s.promise(38, "Throws `IllegalArgumentException` if width is out of range", () -> {
            CaptionAlbum x = Due.album(ALBUM);
            int[] wrong = {0, -1, 101, Integer.MIN_VALUE, Integer.MAX_VALUE};
            for (int width : wrong) {
                Due.argument("window(0, width)", () -> x.window(0, width));
            }
            Due.argument("nobody, 8 of 7", () -> x.window(2, 8));
            x.crop(0, 20, 0, 99, 79);
            Due.argument("81 of 80", () -> x.window(0, 81));
            Due.is("80 of 80", x.window(0, 80), 0);
        });
    }
}
