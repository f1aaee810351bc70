/** Promises 20 and 21: images, and what they leave to undo(). */
public final class ImagesTest {
    private static final int UNKNOWN = -2000000001, NOT = -2000000003;
    private static final int[] NO_IMAGES = {-1, 2, 3, Integer.MAX_VALUE, Integer.MIN_VALUE};
    private static final Due due = new Due("ImagesTest");

    public static void main(String[] args) {
        keepAndGoBack();
        twoImages();
        nothingCanBeUndone();
        refused();
        due.finish();
    }

    private static void isState(RingBases x, String label, int a, int b, int m, int n) {
        due.is(label + ": a", x.told(0), a);
        due.is(label + ": b", x.told(1), b + 10);
        for (int shelf = 0; shelf < 4; shelf++) {
            due.is(label + ": m of " + shelf, x.shelf(shelf, 0), m + shelf);
            due.is(label + ": n of " + shelf, x.shelf(shelf, 1), n - shelf);
        }
    }

    private static void fill(RingBases x, int a, int b, int m, int n) {
        x.base(a, b);
        for (int shelf = 0; shelf < 4; shelf++) {
            x.put(shelf, m + shelf, n - shelf);
        }
    }

    private static void keepAndGoBack() {
        RingBases x = new RingBases();
        fill(x, 5, -3, 10, 20);
        due.is("keep(0)", x.keep(0), 1);
        isState(x, "keep changes neither base nor shelves", 5, -3, 10, 20);
        x.feed('1');
        fill(x, 2, 2, -7, -8);
        isState(x, "changed", 2, 2, -7, -8);
        x.feed('1');
        due.is("goBack(0)", x.goBack(0), 1);
        isState(x, "as kept", 5, -3, 10, 20);
        due.is("goBack: the word is no part of the image", x.told(4), 2);
        fill(x, 9, 9, 1, 1);
        due.is("goBack(0) again", x.goBack(0), 1);
        isState(x, "as kept, again", 5, -3, 10, 20);
    }

    private static void twoImages() {
        RingBases x = new RingBases();
        fill(x, 3, 1, 1, 2);
        x.keep(0);
        fill(x, 4, -1, 3, 4);
        x.keep(1);
        fill(x, 6, 6, 5, 6);
        x.goBack(0);
        isState(x, "image 0", 3, 1, 1, 2);
        x.goBack(1);
        isState(x, "image 1", 4, -1, 3, 4);
        x.keep(0);
        x.base(1, 1);
        x.goBack(0);
        isState(x, "image 0 kept anew", 4, -1, 3, 4);
    }

    private static void nothingCanBeUndone() {
        RingBases x = new RingBases();
        x.put(0, 1, 1);
        x.put(0, 2, 2);
        x.keep(0);
        due.is("keep: told(11)", x.told(11), 0);
        due.is("keep: undo", x.undo(), NOT);
        due.is("keep: the shelf", x.shelf(0, 0), 2);
        for (int i = 0; i < 11; i++) {
            x.put(0, 10 + i, 0);
        }
        x.goBack(0);
        due.is("goBack: told(11)", x.told(11), 0);
        due.is("goBack: undo", x.undo(), NOT);
        x.put(0, 50, 0);
        x.put(0, 51, 0);
        due.is("goBack: later changes can be undone", x.undo(), 1);
        due.is("goBack: the shelf", x.shelf(0, 0), 50);
        due.is("goBack: the first later change", x.undo(), 0);
        due.is("goBack: as the image was", x.shelf(0, 0), 2);
        due.is("goBack: no further", x.undo(), NOT);
    }

    private static void refused() {
        RingBases x = new RingBases();
        x.put(0, 1, 1);
        for (int i : NO_IMAGES) {
            due.is("keep(" + i + ")", x.keep(i), UNKNOWN);
            due.is("goBack(" + i + ")", x.goBack(i), UNKNOWN);
        }
        due.is("goBack(0), not kept", x.goBack(0), NOT);
        due.is("refused: can still be undone", x.told(11), 1);
        x.keep(1);
        x.put(0, 2, 2);
        due.is("goBack(0), only 1 is kept", x.goBack(0), NOT);
        due.is("refused: can still be undone", x.undo(), 0);
        due.is("refused: the shelf", x.shelf(0, 0), 1);
    }
}
