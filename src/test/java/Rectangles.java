/** The rectangles that crop and keeps refuse. */
final class Rectangles {
    interface Cut {
        Object answer(CaptionAlbum x, int[] rectangle);
    }

    private Rectangles() {
    }

    /** The picture reaches from (0, 0) to (40, 60), so that neither the photo's size counts. */
    static void refused(Cut cut) {
        int[][] wrong = {{-1, 0, 5, 5}, {0, -1, 5, 5}, {0, 0, 41, 5}, {0, 0, 5, 61}, {41, 0, 41, 5},
            {0, 61, 5, 61}, {6, 0, 5, 5}, {0, 6, 5, 5}, {1, 1, 0, 0}, {40, 60, 41, 60}, {40, 60, 40, 61},
            {0, 0, -1, 5}, {0, 0, 5, -1}, {Integer.MIN_VALUE, 0, 5, 5}, {0, Integer.MIN_VALUE, 5, 5},
            {0, 0, Integer.MAX_VALUE, 5}, {0, 0, 5, Integer.MAX_VALUE}, {Integer.MAX_VALUE, 0, 5, 5},
            {0, Integer.MAX_VALUE, 5, 5}, {0, 0, Integer.MIN_VALUE, 5}, {0, 0, 5, Integer.MIN_VALUE}};
        int[][] right = {{0, 0, 40, 60}, {40, 60, 40, 60}, {0, 0, 0, 0}, {5, 6, 5, 6}};
        for (int turns = 0; turns < 2; turns++) {
            CaptionAlbum x = picture(turns);
            for (int[] r : wrong) {
                Due.argument(java.util.Arrays.toString(r), () -> cut.answer(x, r));
            }
            Due.is("undoable()", x.undoable(), 1 + turns);
            for (int[] r : right) {
                cut.answer(picture(turns), r);
            }
        }
    }

    private static CaptionAlbum picture(int turns) {
        CaptionAlbum x = Due.album("album gap 1;photo 100 100;person 0 30 30");
        x.crop(0, 20, 10, 60, 70);
        for (int i = 0; i < turns; i++) {
            x.flip(0);
        }
        return x;
    }
}
