/** Promises 22 to 31, and section 3. */
final class NameSentences {
    /** Photos 0 and 1 have four people each, from the left; photo 2 has nobody. */
    private static final String ALBUM = "album gap 5;name cy fox;name ann lee;name abcdefgh zyxwvuts;"
            + "name an lee;name bo le;photo 100 50;person 0 10 10;person 0 20 10;person 0 30 10;"
            + "person 0 40 10;photo 100 50;person 1 10 10;person 1 20 10;person 1 30 10;"
            + "person 1 40 10;photo 10 10";

    private NameSentences() {
    }

    static void tell(Sentences s) {
        names(s);
        oneHolder(s);
        nameOfAndWho(s);
        photosWith(s);
        unnamed(s);
        mostSeen(s);
        ranks(s);
        common(s);
        inversions(s);
        mirrored(s);
        wrongNames(s);
    }

    /** Twenty names, and two photos with twelve people each, all from the left. */
    private static CaptionAlbum full() {
        StringBuilder text = new StringBuilder("album gap 0");
        for (int i = 0; i < 20; i++) {
            text.append(";name ").append((char) ('a' + i)).append(" z");
        }
        for (int photo = 0; photo < 2; photo++) {
            text.append(";photo 50 50");
            for (int i = 0; i < 12; i++) {
                text.append(";person ").append(photo).append(' ').append(i).append(" 1");
            }
        }
        return Due.album(text.toString());
    }

    private static void give(CaptionAlbum x, int photo, int... names) {
        for (int person = 0; person < names.length; person++) {
            x.giveName(photo, person, names[person]);
        }
    }

    private static void names(Sentences s) {
        s.section(3, "A name consists of two words, FIRST and LAST.", () -> {
            CaptionAlbum x = Due.album("album gap 0;photo 1 1;name ab c;name a bc;name c ab");
            Due.is("names()", x.names(), 3);
            Due.is("letters(0)", x.letters(0), 3);
        });
        s.promise(22, "Returns the number of names; 0 if there is no album.", () -> {
            CaptionAlbum x = new CaptionAlbum();
            Due.is("no album", x.names(), 0);
            Due.argument("load", () -> Due.load(x, "album gap 1;name a b"));
            Due.is("no album after an error", x.names(), 0);
            Due.load(x, "album gap 1;photo 1 1;name a b");
            Due.is("one", x.names(), 1);
            Due.load(x, "album gap 1;photo 1 1");
            Due.is("none", x.names(), 0);
            Due.is("twenty", full().names(), 20);
        });
        s.promise(23, "Returns the number of letters of both words of a name.", () -> {
            CaptionAlbum x = Due.album(ALBUM);
            Due.is("cy fox", x.letters(0), 5);
            Due.is("the most", x.letters(2), 16);
            Due.is("the last", x.letters(4), 4);
        });
        s.promise(23, "Returns the number of letters.", () -> {
            for (int letters = 1; letters <= 8; letters++) {
                CaptionAlbum x = Due.album("album gap 1;photo 1 1;name " + "z".repeat(letters)
                        + " a;name b " + "a".repeat(letters));
                Due.is("FIRST of " + letters, x.letters(0), letters + 1);
                Due.is("LAST of " + letters, x.letters(1), letters + 1);
            }
        });
    }

    private static void oneHolder(Sentences s) {
        s.section(3, "A person of a photo may have a name;", () -> {
            CaptionAlbum x = Due.album(ALBUM);
            Due.is("at first", Due.namesOf(x, 0), "- - - -");
            x.giveName(0, 1, 4);
            Due.is("one has", Due.namesOf(x, 0), "- 4 - -");
        });
        s.section(3, "in one photo, a name belongs to at most one person.", () -> {
            CaptionAlbum x = Due.album(ALBUM);
            for (int person = 0; person < 4; person++) {
                x.giveName(0, person, 0);
                x.giveName(1, person, 0);
                Due.is("who(0, 0)", x.who(0, 0), person);
                Due.is("who has it", Due.namesOf(x, 0).replace("-", "").strip(), "0");
            }
            Due.is("it belongs to one of each photo", x.photosWith(0), 3);
        });
        s.section(3, "If a person gets a name that belongs to another person of the photo, that other one "
                + "has none then.", () -> {
            CaptionAlbum x = Due.album(ALBUM);
            give(x, 0, 0, 1, 2, 3);
            give(x, 1, 0, 1, 2, 3);
            x.giveName(0, 0, 1);
            Due.is("giveName", Due.namesOf(x, 0), "1 - 2 3");
            x.giveName(0, 0, 1);
            Due.is("the same name again", Due.namesOf(x, 0), "1 - 2 3");
            Due.phrases(x, 0, "all left someone,ann lee");
            Due.is("phrases", Due.namesOf(x, 0), "- 1 2 3");
            x.copyNames(0, 1);
            Due.is("copyNames", Due.namesOf(x, 0), "0 1 2 3");
            x.retouch(0, 0, true);
            x.giveName(0, 1, 0);
            Due.is("from who is away", Due.namesOf(x, 0), "- 0 2 3");
            x.crop(0, 0, 0, 15, 49);
            x.giveName(0, 0, 3);
            Due.is("from who is outside", Due.namesOf(x, 0), "3 0 2 -");
            Due.is("not in the other photo", Due.namesOf(x, 1), "0 1 2 3");
            x.giveName(1, 0, -1);
            Due.is("NONE takes nobody else's", Due.namesOf(x, 1), "- 1 2 3");
        });
    }

    private static void nameOfAndWho(Sentences s) {
        s.promise(24, "Returns the name of a person, who need not be in the picture.", () -> {
            CaptionAlbum x = Due.album(ALBUM);
            x.giveName(0, 2, 4);
            x.retouch(0, 2, true);
            Due.is("away", x.nameOf(0, 2), 4);
            x.retouch(0, 2, false);
            x.crop(0, 0, 0, 5, 5);
            Due.is("outside", x.nameOf(0, 2), 4);
        });
        s.promise(24, "Returns the number of the name; NONE if the person has none.", () -> {
            CaptionAlbum x = full();
            Due.is("none", x.nameOf(1, 11), -1);
            x.giveName(1, 11, 0);
            Due.is("0", x.nameOf(1, 11), 0);
            x.giveName(1, 11, 19);
            Due.is("19", x.nameOf(1, 11), 19);
            x.giveName(1, 11, -1);
            Due.is("taken", x.nameOf(1, 11), -1);
        });
        s.promise(25, "Returns the person of a photo who has a name, in the picture or not.", () -> {
            CaptionAlbum x = Due.album(ALBUM);
            x.giveName(0, 2, 4);
            x.retouch(0, 2, true);
            Due.is("away", x.who(0, 4), 2);
            x.retouch(0, 2, false);
            x.crop(0, 0, 0, 5, 5);
            Due.is("outside", x.who(0, 4), 2);
        });
        s.promise(25, "Returns the number of the person; NONE if nobody has it.", () -> {
            CaptionAlbum x = full();
            Due.is("nobody", x.who(0, 19), -1);
            x.giveName(1, 11, 19);
            Due.is("person 11", x.who(1, 19), 11);
            Due.is("the other photo", x.who(0, 19), -1);
            x.giveName(1, 0, 19);
            Due.is("person 0", x.who(1, 19), 0);
            x.giveName(1, 0, -1);
            Due.is("taken", x.who(1, 19), -1);
        });
    }

    private static void photosWith(Sentences s) {
        s.promise(26, "Returns the photos in whose picture a person with a name is.", () -> {
            CaptionAlbum x = Due.album(ALBUM);
            x.giveName(0, 1, 4);
            x.giveName(1, 3, 4);
            Due.is("both", x.photosWith(4), 3);
            x.crop(0, 0, 0, 19, 49);
            Due.is("outside of one", x.photosWith(4), 2);
            x.retouch(1, 3, true);
            Due.is("away in the other", x.photosWith(4), 0);
        });
        s.promise(26, "Returns a bit set: bit k is set for photo k.", () -> {
            CaptionAlbum x = Due.album("album gap 1;name a b;name c d" + ";photo 9 9".repeat(5)
                    + ";person 0 1 1;person 1 1 1;person 2 1 1;person 3 1 1;person 4 1 1");
            Due.is("none", x.photosWith(0), 0);
            for (int photo = 0; photo < 5; photo++) {
                x.giveName(photo, 0, 1);
                Due.is("photo " + photo, x.photosWith(1), (2 << photo) - 1);
            }
            Due.is("the other name", x.photosWith(0), 0);
        });
    }

    private static void unnamed(Sentences s) {
        s.promise(27, "Returns the number of people in the picture without a name.", () -> {
            CaptionAlbum x = Due.album(ALBUM);
            Due.is("all", x.unnamed(0), 4);
            x.giveName(0, 0, 0);
            Due.is("but one", x.unnamed(0), 3);
            x.crop(0, 0, 0, 20, 49);
            Due.is("of two", x.unnamed(0), 1);
            x.retouch(0, 1, true);
            Due.is("one with a name", x.unnamed(0), 0);
            x.retouch(0, 1, false);
            x.retouch(0, 0, true);
            Due.is("one without", x.unnamed(0), 1);
        });
        s.promise(27, "Returns the number of people.", () -> {
            Due.is("nobody", Due.album(ALBUM).unnamed(2), 0);
            CaptionAlbum x = full();
            Due.is("twelve", x.unnamed(0), 12);
            give(x, 0, 0, 1, 2, 3, 4, 5, 6, 7, 8, 9, 10, 19);
            Due.is("twelve with names", x.unnamed(0), 0);
        });
    }

    private static String ranks(CaptionAlbum x) {
        StringBuilder names = new StringBuilder();
        for (int rank = 0; rank < x.names(); rank++) {
            names.append(rank > 0 ? " " : "").append(x.mostSeen(rank));
        }
        return names.toString();
    }

    private static void mostSeen(Sentences s) {
        s.promise(28, "Returns a name by the number of photos in whose picture it is: greater numbers "
                + "first, of equal ones the smaller LAST in alphabetical order (a word that begins "
                + "another one is smaller), then the smaller FIRST.", () -> {
            CaptionAlbum x = Due.album(ALBUM);
            // cy fox, bo le, an lee, ann lee, abcdefgh zyxwvuts
            Due.is("by words", ranks(x), "0 4 3 1 2");
            give(x, 0, 2, 1);
            give(x, 1, 2);
            Due.is("by photos", ranks(x), "2 1 0 4 3");
            x.retouch(0, 0, true);
            Due.is("one away", ranks(x), "1 2 0 4 3");
            x.crop(1, 11, 0, 99, 49);
            Due.is("the other outside", ranks(x), "1 0 4 3 2");
            Due.is("LAST before FIRST", words("b zz;name a zz;name z a;name z aa"), "2 3 1 0");
            Due.is("a word that begins another one", words("a bc;name a b;name a bcd;name a bb"),
                    "1 3 0 2");
            Due.is("the same of FIRST", words("bc a;name b a;name bcd a;name bb a"), "1 3 0 2");
            Due.is("eight letters", words("a abcdefgi;name a abcdefgh;name a abcdefg"), "2 1 0");
            Due.is("a longer word may be smaller", words("b z;name b aaaaaaaa;name aaaaaaaa z"),
                    "1 2 0");
        });
        s.promise(28, "Returns the number of the name.", () -> {
            CaptionAlbum x = Due.album("album gap 1;name b b;name a a" + ";photo 9 9".repeat(5)
                    + ";person 0 1 1;person 1 1 1;person 2 1 1;person 3 1 1;person 4 1 1");
            for (int photo = 0; photo < 5; photo++) {
                x.giveName(photo, 0, photo < 3 ? 0 : 1);
            }
            Due.is("three and two", ranks(x), "0 1");
            x.giveName(2, 0, 1);
            Due.is("two and three", ranks(x), "1 0");
        });
    }

    private static String words(String names) {
        return ranks(Due.album("album gap 1;photo 1 1;name " + names));
    }

    private static void ranks(Sentences s) {
        s.promise(28, "`rank`: from 0", () -> {
            CaptionAlbum x = full();
            Due.is("rank 0", x.mostSeen(0), 0);
            Due.is("rank 19", x.mostSeen(19), 19);
            x.giveName(1, 11, 19);
            Due.is("rank 0 then", x.mostSeen(0), 19);
            Due.is("rank 19 then", x.mostSeen(19), 18);
        });
        s.promise(28, "Throws `IndexOutOfBoundsException` if rank is negative or not less than the number "
                + "of names", () -> {
            CaptionAlbum x = Due.album(ALBUM);
            int[] wrong = {-1, 5, 20, Integer.MIN_VALUE, Integer.MAX_VALUE};
            for (int rank : wrong) {
                Due.index("mostSeen(rank)", () -> x.mostSeen(rank));
            }
            Due.is("the last", x.mostSeen(4), 2);
            Due.index("no names", () -> Due.album("album gap 1;photo 1 1").mostSeen(0));
            Due.index("20 names", () -> full().mostSeen(20));
        });
    }

    private static void common(Sentences s) {
        s.promise(29, "Returns the names that are in two pictures.", () -> {
            CaptionAlbum x = Due.album(ALBUM);
            give(x, 0, 0, 1, 2, 3);
            give(x, 1, 3, 4, 1, -1);
            Due.is("common(0, 1)", x.common(0, 1), 0b1010);
            Due.is("common(1, 0)", x.common(1, 0), 0b1010);
            x.retouch(1, 0, true);
            Due.is("away", x.common(0, 1), 0b10);
            x.crop(0, 0, 0, 19, 49);
            Due.is("outside", x.common(0, 1), 0);
        });
        s.promise(29, "`other`: number of a photo, possibly the same", () -> {
            CaptionAlbum x = Due.album(ALBUM);
            give(x, 0, 0, 1, -1, 3);
            Due.is("common(0, 0)", x.common(0, 0), 0b1011);
            x.retouch(0, 0, true);
            Due.is("common(0, 0), away", x.common(0, 0), 0b1010);
            Due.is("common(2, 2)", x.common(2, 2), 0);
            Due.is("common(0, 2)", x.common(0, 2), 0);
        });
        s.promise(29, "Returns a bit set: bit k is set for name k.", () -> {
            CaptionAlbum x = full();
            for (int name = 0; name < 20; name++) {
                x.giveName(0, 0, name);
                x.giveName(1, 11, name);
                Due.is("name " + name, x.common(0, 1), 1 << name);
            }
        });
    }

    private static void inversions(Sentences s) {
        s.promise(30, "Returns how many pairs of names that are in two pictures stand in a different "
                + "order there, by the order of all people (section 2).", () -> {
            CaptionAlbum x = Due.album(ALBUM);
            give(x, 0, 0, 1, 2, 3);
            give(x, 1, 3, 0, 2, 1);
            Due.is("4 of 6", x.inversions(0, 1), 4);
            Due.is("the other way", x.inversions(1, 0), 4);
            x.flip(0);
            Due.is("flipped", x.inversions(0, 1), 2);
            x.retouch(1, 2, true);
            Due.is("one away", x.inversions(0, 1), 1);
            x.crop(0, 0, 0, 79, 49);
            Due.is("one outside", x.inversions(0, 1), 0);
            x.uncrop(0);
            Due.is("none outside", x.inversions(0, 1), 1);
            x.giveName(1, 1, 4);
            Due.is("another name", x.inversions(0, 1), 0);
            CaptionAlbum y = Due.album("album gap 1;name a b;name c d;photo 9 9;person 0 1 1;"
                    + "person 0 1 2;photo 9 9;person 1 1 1;person 1 1 1");
            give(y, 0, 0, 1);
            give(y, 1, 0, 1);
            Due.is("one x, the greater y first", y.inversions(0, 1), 1);
        });
        s.promise(30, "`other`: number of a photo, possibly the same", () -> {
            CaptionAlbum x = Due.album(ALBUM);
            give(x, 0, 3, 1, 0, 2);
            Due.is("inversions(0, 0)", x.inversions(0, 0), 0);
            Due.is("inversions(2, 2)", x.inversions(2, 2), 0);
            Due.is("inversions(0, 2)", x.inversions(0, 2), 0);
            Due.is("inversions(2, 0)", x.inversions(2, 0), 0);
        });
        s.promise(30, "Returns the number of pairs.", () -> {
            CaptionAlbum x = full();
            Due.is("no names", x.inversions(0, 1), 0);
            give(x, 0, 0, 1, 2, 3, 4, 5, 6, 7, 8, 9, 10, 19);
            give(x, 1, 0, 1, 2, 3, 4, 5, 6, 7, 8, 9, 10, 19);
            Due.is("none", x.inversions(0, 1), 0);
            x.flip(1);
            Due.is("all 66", x.inversions(0, 1), 66);
            x.retouch(1, 0, true);
            Due.is("the last one is away", x.inversions(0, 1), 55);
            x.retouch(1, 0, false);
            x.giveName(0, 0, 15);
            Due.is("a name that is only in one", x.inversions(0, 1), 55);
            Due.is("the other way", x.inversions(1, 0), 55);
            x.flip(0);
            Due.is("none again", x.inversions(0, 1), 0);
        });
    }

    private static void mirrored(Sentences s) {
        s.promise(31, "Tells whether two pictures seem to be mirrored: more than half of the pairs of "
                + "names that are in both stand in a different order.", () -> {
            CaptionAlbum x = Due.album(ALBUM);
            Due.is("no pairs", x.isMirrored(0, 1), false);
            give(x, 0, 0, 1, 2, 3);
            give(x, 1, 0, -1, -1, -1);
            Due.is("one name, no pairs", x.isMirrored(0, 1), false);
            give(x, 1, 1, 0, -1, -1);
            Due.is("1 of 1", x.isMirrored(0, 1), true);
            give(x, 1, 0, 1, -1, -1);
            Due.is("0 of 1", x.isMirrored(0, 1), false);
            give(x, 1, 0, 2, 1, -1);
            Due.is("1 of 3", x.isMirrored(0, 1), false);
            give(x, 1, 2, 0, 1, -1);
            Due.is("2 of 3", x.isMirrored(0, 1), true);
            give(x, 1, 3, 0, 1, 2);
            Due.is("3 of 6", x.isMirrored(0, 1), false);
            give(x, 1, 3, 0, 2, 1);
            Due.is("4 of 6", x.isMirrored(0, 1), true);
            x.giveName(0, 0, 4);
            Due.is("3 of 3", x.isMirrored(0, 1), true);
        });
        s.promise(31, "`other`: number of a photo, possibly the same", () -> {
            CaptionAlbum x = Due.album(ALBUM);
            give(x, 0, 3, 1, 0, 2);
            Due.is("isMirrored(0, 0)", x.isMirrored(0, 0), false);
            Due.is("isMirrored(2, 2)", x.isMirrored(2, 2), false);
        });
        s.promise(31, "Returns true if they do.", () -> {
            CaptionAlbum x = full();
            give(x, 0, 0, 1, 2, 3, 4, 5, 6, 7, 8, 9, 10, 19);
            give(x, 1, 0, 1, 2, 3, 4, 5, 6, 7, 8, 9, 10, 19);
            Due.is("0 of 66", x.isMirrored(0, 1), false);
            x.flip(1);
            Due.is("66 of 66", x.isMirrored(0, 1), true);
            x.retouch(1, 0, true);
            Due.is("55 of 55", x.isMirrored(0, 1), true);
        });
    }

    private static void wrongNames(Sentences s) {
        int[] wrong = {-1, 5, 20, 32, Integer.MIN_VALUE, Integer.MAX_VALUE};
        String noName = "Throws `IndexOutOfBoundsException` if there is no such name";
        s.promise(23, noName, () -> {
            CaptionAlbum x = Due.album(ALBUM);
            for (int name : wrong) {
                Due.index("letters(name)", () -> x.letters(name));
            }
            Due.index("no names", () -> Due.album("album gap 1;photo 1 1").letters(0));
            Due.index("20 names", () -> full().letters(20));
            Due.is("the last of 20", full().letters(19), 2);
        });
        s.promise(26, noName, () -> {
            CaptionAlbum x = Due.album(ALBUM);
            for (int name : wrong) {
                Due.index("photosWith(name)", () -> x.photosWith(name));
            }
            Due.index("no names", () -> Due.album("album gap 1;photo 1 1").photosWith(0));
        });
        s.promise(25, "Throws `IndexOutOfBoundsException` if there is no such photo or name", () -> {
            CaptionAlbum x = Due.album(ALBUM);
            for (int name : wrong) {
                Due.index("who(0, name)", () -> x.who(0, name));
            }
            Due.is("the last name", x.who(0, 4), -1);
        });
        s.promise(24, "Throws `IndexOutOfBoundsException` if there is no such photo or person", () -> {
            CaptionAlbum x = Due.album(ALBUM);
            int[] people = {-1, 4, 12, Integer.MIN_VALUE, Integer.MAX_VALUE};
            for (int person : people) {
                Due.index("nameOf(0, person)", () -> x.nameOf(0, person));
            }
            Due.index("nameOf(2, 0), nobody", () -> x.nameOf(2, 0));
            Due.is("the last person", x.nameOf(0, 3), -1);
        });
    }
}
